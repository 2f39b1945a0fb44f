/-! queries of what is in mind: the class's, the model's -/
theorem ev_isName (x : Int) {D : Nat → Int → Int} {X : cm_X} : cm_x 160 0 [some (.inl (x))] [] (cm_hp D X) = some (.inl (some (.inl (if 0 ≤ x ∧ x < 12 then 1 else 0))), cm_hp D X) := by
  rw [sg_X8_isName_0]
  by_cases h1 : x < 0
  · rw [if_pos h1, if_neg (by omega)]
  · rw [if_neg h1]
    by_cases h2 : x < 12
    · rw [if_pos h2, if_pos (by omega)]
    · rw [if_neg h2, if_neg (by omega)]
/-- a file of that name in mind -/
def cHas (D : Nat → Int → Int) (n : Int) : Int := if 0 ≤ n ∧ n < 12 ∧ D 16 n ≠ 0 then 1 else 0
theorem ev_has (n : Int) {D : Nat → Int → Int} {X : cm_X} : cm_x 70 0 [some (.inr (.inr 15)), some (.inl (n))] [] (cm_hp D X) = some (.inl (some (.inl (cHas D n))), cm_hp D X) := by
  rw [sg_X6_has_0, ev_isName, aft_v, sg_X6_has_4]
  unfold cHas
  by_cases h : 0 ≤ n ∧ n < 12
  · rw [if_pos h, if_neg (by omega), ck_t h]
    by_cases h2 : D 16 n = 0
    · rw [if_pos h2, if_neg (by omega)]
    · rw [if_neg h2, if_pos (by omega)]
  · rw [if_neg h, if_pos rfl, if_neg (by omega)]
theorem ev_files {D : Nat → Int → Int} {X : cm_X} : cm_x 76 0 [some (.inr (.inr 15)), none, none] [] (cm_hp D X) = some (.inl (some (.inl (smw (cHas D) 12))), cm_hp D X) := by
  rw [sg_X6_fileCount_0]
  have h := lp_sum (n := 12) (f := cHas D) (X := fun i a => cm_x 76 4 [some (.inr (.inr 15)), some (.inl (a)), some (.inl (i))] [] (cm_hp D X)) (fun i a h1 h2 => by
    show cm_x 76 4 [some (.inr (.inr 15)), some (.inl (a)), some (.inl (i))] [] (cm_hp D X) = _
    rw [sg_X6_fileCount_4, if_pos (by omega), ev_has, aft_v, sg_X6_fileCount_16]
    have e : cm_wr (i + 1) = i + 1 := cm_wr_id (by omega) (by omega)
    unfold cHas
    by_cases h3 : 0 ≤ i ∧ i < 12 ∧ D 16 i ≠ 0
    · rw [if_pos h3, if_neg (by omega), e]
    · rw [if_neg h3, if_pos rfl, e])
  refine Eq.trans h ?_
  show cm_x 76 4 [some (.inr (.inr 15)), some (.inl (smw (cHas D) 12)), some (.inl (12))] [] (cm_hp D X) = _
  rw [sg_X6_fileCount_4, if_neg (by omega)]
/-- changed: 0 or not -/
def cCh (D : Nat → Int → Int) (n : Int) : Int := if D 18 n = 0 then 0 else 1
theorem ev_changed {D : Nat → Int → Int} {X : cm_X} : cm_x 77 0 [some (.inr (.inr 15)), none, none] [] (cm_hp D X) = some (.inl (some (.inl (smw (cCh D) 12))), cm_hp D X) := by
  rw [sg_X6_changedCount_0]
  have h := lp_sum (n := 12) (f := cCh D) (X := fun i a => cm_x 77 4 [some (.inr (.inr 15)), some (.inl (a)), some (.inl (i))] [] (cm_hp D X)) (fun i a h1 h2 => by
    show cm_x 77 4 [some (.inr (.inr 15)), some (.inl (a)), some (.inl (i))] [] (cm_hp D X) = _
    have e : cm_wr (i + 1) = i + 1 := cm_wr_id (by omega) (by omega)
    rw [sg_X6_changedCount_4, if_pos (by omega), ck_t (by omega), e]
    unfold cCh
    by_cases h3 : D 18 i = 0
    · rw [if_pos h3, if_pos h3]
    · rw [if_neg h3, if_neg h3])
  refine Eq.trans h ?_
  show cm_x 77 4 [some (.inr (.inr 15)), some (.inl (smw (cCh D) 12)), some (.inl (12))] [] (cm_hp D X) = _
  rw [sg_X6_changedCount_4, if_neg (by omega)]
def cAny (D : Nat → Int → Int) : Int := if D 15 6 = 0 then (if 0 < smw (cCh D) 12 then 1 else 0) else 1
theorem ev_any {D : Nat → Int → Int} {X : cm_X} : cm_x 78 0 [some (.inr (.inr 15))] [] (cm_hp D X) = some (.inl (some (.inl (cAny D))), cm_hp D X) := by
  rw [sg_X6_anyChanged_0]
  unfold cAny
  by_cases h : D 15 6 = 0
  · rw [if_pos h, if_pos h, ev_changed, aft_v, sg_X6_anyChanged_11]
    by_cases h2 : 0 < smw (cCh D) 12
    · rw [if_pos h2, if_pos h2]
    · rw [if_neg h2, if_neg h2]
  · rw [if_neg h, if_neg h]
/-- what is known of the lengths in mind -/
def lOk (D : Nat → Int → Int) : Prop := ∀ n : Int, 0 ≤ n → n < 12 → 0 ≤ D 17 n ∧ D 17 n ≤ 8
def cNew (D : Nat → Int → Int) (n c : Int) : Int := if D 19 (n * 8 + c) = -1 then 1 else 0
theorem ev_newCells {D : Nat → Int → Int} {X : cm_X} (hl : lOk D) {n : Int} (h0 : 0 ≤ n) (h1 : n < 12) : cm_x 79 0 [some (.inr (.inr 15)), some (.inl (n)), none, none] [] (cm_hp D X) = some (.inl (some (.inl (smw (cNew D n) (D 17 n).toNat))), cm_hp D X) := by
  rw [sg_X6_newCells_0]
  obtain ⟨l0, l1⟩ := hl n h0 h1
  have h := lp_sum (n := (D 17 n).toNat) (f := cNew D n) (X := fun i a => cm_x 79 4 [some (.inr (.inr 15)), some (.inl (n)), some (.inl (a)), some (.inl (i))] [] (cm_hp D X)) (fun i a h2 h3 => by
    show cm_x 79 4 [some (.inr (.inr 15)), some (.inl (n)), some (.inl (a)), some (.inl (i))] [] (cm_hp D X) = _
    have e : cm_wr (i + 1) = i + 1 := cm_wr_id (by omega) (by omega)
    have e2 : cm_wr (n * 8) = n * 8 := cm_wr_id (by omega) (by omega)
    have e3 : cm_wr (n * 8 + i) = n * 8 + i := cm_wr_id (by omega) (by omega)
    rw [sg_X6_newCells_4, ck_t (by omega), if_pos (by omega), e, e2, e3, ck_t (by omega)]
    unfold cNew
    by_cases h3 : D 19 (n * 8 + i) = -1
    · rw [if_pos h3, if_pos h3]
    · rw [if_neg h3, if_neg h3])
  refine Eq.trans h ?_
  have e : (((D 17 n).toNat : Nat) : Int) = D 17 n := by omega
  show cm_x 79 4 [some (.inr (.inr 15)), some (.inl (n)), some (.inl (smw (cNew D n) (D 17 n).toNat)), some (.inl (((D 17 n).toNat : Nat)))] [] (cm_hp D X) = _
  rw [sg_X6_newCells_4, ck_t (by omega), if_neg (by omega)]
def cNs (D : Nat → Int → Int) (n : Int) : Int := smw (cNew D n) (D 17 n).toNat
theorem ev_newCount {D : Nat → Int → Int} {X : cm_X} (hl : lOk D) : cm_x 80 0 [some (.inr (.inr 15)), none, none] [] (cm_hp D X) = some (.inl (some (.inl (smw (cNs D) 12))), cm_hp D X) := by
  rw [sg_X6_newCount_0]
  have h := lp_sum (n := 12) (f := cNs D) (X := fun i a => cm_x 80 4 [some (.inr (.inr 15)), some (.inl (a)), some (.inl (i))] [] (cm_hp D X)) (fun i a h1 h2 => by
    show cm_x 80 4 [some (.inr (.inr 15)), some (.inl (a)), some (.inl (i))] [] (cm_hp D X) = _
    have e : cm_wr (i + 1) = i + 1 := cm_wr_id (by omega) (by omega)
    rw [sg_X6_newCount_4, if_pos (by omega), ev_newCells hl (by omega) (by omega), aft_v, sg_X6_newCount_16, e]
    rfl)
  refine Eq.trans h ?_
  show cm_x 80 4 [some (.inr (.inr 15)), some (.inl (smw (cNs D) 12)), some (.inl (12))] [] (cm_hp D X) = _
  rw [sg_X6_newCount_4, if_neg (by omega)]
/-- contents: the directory, of each changed file its new cells and its entry -/
def cCf (D : Nat → Int → Int) (n : Int) : Int := if D 18 n = 0 then 0 else cm_wr (cNs D n + 1)
def cDir (D : Nat → Int → Int) : Int := if D 15 6 = 0 then 0 else 1
/-- a sum that wraps, from a on -/
def smf (a : Int) (f : Int → Int) : Nat → Int
  | 0 => a
  | n + 1 => cm_wr (smf a f n + f n)
theorem smf_congr {a : Int} {f g : Int → Int} : ∀ {n : Nat}, (∀ i : Int, 0 ≤ i → i < n → f i = g i) → smf a f n = smf a g n := by
  intro n
  induction n with
  | zero => intro _; rfl
  | succ n ih =>
    intro h
    show cm_wr (smf a f n + f n) = cm_wr (smf a g n + g n)
    rw [ih (fun i h1 h2 => h i h1 (by omega)), h n (by omega) (by omega)]
theorem lp_smf {X : Int → Int → cm_R} {f : Int → Int} {n : Nat} {a0 : Int} (step : ∀ i a : Int, 0 ≤ i → i < n → X i a = X (i + 1) (cm_wr (a + f i))) : X 0 a0 = X n (smf a0 f n) := by
  have key : ∀ k : Nat, k ≤ n → X 0 a0 = X k (smf a0 f k) := by
    intro k
    induction k with
    | zero => intro _; rfl
    | succ k ih =>
      intro hk
      rw [ih (by omega), step k _ (by omega) (by omega)]
      rfl
  exact key n (Nat.le_refl _)
theorem smf_le {a : Int} {f : Int → Int} {m : Int} (hm : 0 ≤ m) (ha : 0 ≤ a) : ∀ {n : Nat}, (∀ i : Int, 0 ≤ i → i < n → 0 ≤ f i ∧ f i ≤ m) → a + m * n < 2147483648 → a ≤ smf a f n ∧ smf a f n ≤ a + m * n := by
  intro n
  induction n with
  | zero => intro _ _; exact ⟨Int.le_refl _, by show a ≤ a + m * ((0 : Nat) : Int); simp⟩
  | succ n ih =>
    intro h hb
    have e1 : m * ((n + 1 : Nat) : Int) = m * n + m := by rw [Int.natCast_add, Int.mul_add]; simp
    rw [e1] at hb ⊢
    obtain ⟨h1, h2⟩ := ih (fun i h3 h4 => h i h3 (by omega)) (by omega)
    obtain ⟨h3, h4⟩ := h n (by omega) (by omega)
    show a ≤ cm_wr (smf a f n + f n) ∧ cm_wr (smf a f n + f n) ≤ _
    rw [cm_wr_id (by omega) (by omega)]
    omega
def cCon (D : Nat → Int → Int) : Int := smf (cDir D) (cCf D) 12
def cCnt (D : Nat → Int → Int) : Int := if cCon D = 0 then 0 else cm_wr (cCon D + 1)
theorem ev_contentCount {D : Nat → Int → Int} {X : cm_X} (hl : lOk D) : cm_x 81 0 [some (.inr (.inr 15)), none, none] [] (cm_hp D X) = some (.inl (some (.inl (cCnt D))), cm_hp D X) := by
  have h := lp_smf (n := 12) (f := cCf D) (a0 := cDir D) (X := fun i a => cm_x 81 15 [some (.inr (.inr 15)), some (.inl (a)), some (.inl (i))] [] (cm_hp D X)) (fun i a h1 h2 => by
    show cm_x 81 15 [some (.inr (.inr 15)), some (.inl (a)), some (.inl (i))] [] (cm_hp D X) = _
    have e : cm_wr (i + 1) = i + 1 := cm_wr_id (by omega) (by omega)
    rw [sg_X6_contentCount_15, if_pos (by omega), ck_t (by omega), e]
    unfold cCf
    by_cases h3 : D 18 i = 0
    · rw [if_pos h3, if_pos h3]
    · rw [if_neg h3, if_neg h3, ev_newCells hl (by omega) (by omega), aft_v, sg_X6_contentCount_36, e]
      rfl)
  have h9 : cm_x 81 0 [some (.inr (.inr 15)), none, none] [] (cm_hp D X) = cm_x 81 15 [some (.inr (.inr 15)), some (.inl (cDir D)), some (.inl (0))] [] (cm_hp D X) := by
    rw [sg_X6_contentCount_0]
    unfold cDir
    by_cases h3 : D 15 6 = 0
    · rw [if_pos h3, if_pos h3]
    · rw [if_neg h3, if_neg h3]
  rw [h9]
  refine Eq.trans h ?_
  show cm_x 81 15 [some (.inr (.inr 15)), some (.inl (cCon D)), some (.inl (12))] [] (cm_hp D X) = _
  rw [sg_X6_contentCount_15, if_neg (by omega)]
  unfold cCnt
  by_cases h3 : cCon D = 0
  · rw [if_pos h3, if_pos h3]
  · rw [if_neg h3, if_neg h3]
theorem cNew_b (D : Nat → Int → Int) (n c : Int) : 0 ≤ cNew D n c ∧ cNew D n c ≤ 1 := by
  unfold cNew
  by_cases h : D 19 (n * 8 + c) = -1
  · rw [if_pos h]; omega
  · rw [if_neg h]; omega
theorem cNs_b {D : Nat → Int → Int} (hl : lOk D) {n : Int} (h0 : 0 ≤ n) (h1 : n < 12) : 0 ≤ cNs D n ∧ cNs D n ≤ 8 := by
  obtain ⟨l0, l1⟩ := hl n h0 h1
  have := smw_le (m := 1) (by omega) (f := cNew D n) (n := (D 17 n).toNat) (fun i _ _ => cNew_b D n i) (by omega)
  unfold cNs
  omega
theorem cCf_b {D : Nat → Int → Int} (hl : lOk D) {n : Int} (h0 : 0 ≤ n) (h1 : n < 12) : 0 ≤ cCf D n ∧ cCf D n ≤ 9 := by
  have := cNs_b hl h0 h1
  unfold cCf
  by_cases h : D 18 n = 0
  · rw [if_pos h]; omega
  · rw [if_neg h, cm_wr_id (by omega) (by omega)]; omega
theorem cCon_b {D : Nat → Int → Int} (hl : lOk D) : 0 ≤ cCon D ∧ cCon D ≤ 109 := by
  have hd : 0 ≤ cDir D ∧ cDir D ≤ 1 := by
    unfold cDir
    by_cases h : D 15 6 = 0
    · rw [if_pos h]; omega
    · rw [if_neg h]; omega
  have := smf_le (a := cDir D) (m := 9) (by omega) hd.1 (f := cCf D) (n := 12) (fun i h1 h2 => cCf_b hl h1 (by omega)) (by omega)
  unfold cCon
  omega
/-- the name of a virtual block: the first -/
def cNm (D : Nat → Int → Int) (v : Int) : Int := fnd (fun n => decide (D 16 n = v)) (-1) 12 0
theorem ev_nameOf {D : Nat → Int → Int} {X : cm_X} (v : Int) : cm_x 74 0 [some (.inr (.inr 15)), some (.inl (v)), none] [] (cm_hp D X) = some (.inl (some (.inl (cNm D v))), cm_hp D X) := by
  rw [sg_X6_nameOf_0]
  refine lp_fnd (k := 12) (i := 0) (X := fun n => cm_x 74 2 [some (.inr (.inr 15)), some (.inl (v)), some (.inl (n))] [] (cm_hp D X)) (A := fun n => some (.inl (some (.inl (n))), cm_hp D X)) (p := fun n => decide (D 16 n = v)) (fun j h1 h2 => ?_) ?_
  · show cm_x 74 2 [some (.inr (.inr 15)), some (.inl (v)), some (.inl (j))] [] (cm_hp D X) = if decide (D 16 j = v) = true then some (.inl (some (.inl (j))), cm_hp D X) else cm_x 74 2 [some (.inr (.inr 15)), some (.inl (v)), some (.inl (j + 1))] [] (cm_hp D X)
    have e : cm_wr (j + 1) = j + 1 := cm_wr_id (by omega) (by omega)
    rw [sg_X6_nameOf_2, if_pos (by omega), ck_t (by omega), e]
    by_cases h3 : D 16 j = v
    · rw [if_pos h3, if_pos (by simpa using h3)]
    · rw [if_neg h3, if_neg (by simpa using h3)]
  · show cm_x 74 2 [some (.inr (.inr 15)), some (.inl (v)), some (.inl (12))] [] (cm_hp D X) = _
    rw [sg_X6_nameOf_2, if_neg (by omega)]
