/-! queries of the model's row of what is in mind; both held against each other -/
theorem up_row {D : Nat → Int → Int} {a b : Nat} {i v : Int} (h : b ≠ a) : cm_up D a i v b = D b := by
  unfold cm_up
  rw [if_neg h]
theorem up_same {D : Nat → Int → Int} {a : Nat} {i v : Int} : cm_up D a i v a = cm_u1 (D a) i v := by
  unfold cm_up
  rw [if_pos rfl]
theorem ev_isIn (x a b : Int) {D : Nat → Int → Int} {X : cm_X} : cm_x 164 0 [some (.inl (x)), some (.inl (a)), some (.inl (b))] [] (cm_hp D X) = some (.inl (some (.inl (if a ≤ x ∧ x ≤ b then 1 else 0))), cm_hp D X) := by
  rw [sg_X9_isIn_0]
  by_cases h1 : x < a
  · rw [if_pos h1, if_neg (by omega)]
  · rw [if_neg h1]
    by_cases h2 : b < x
    · rw [if_pos h2, if_neg (by omega)]
    · rw [if_neg h2, if_pos (by omega)]
theorem ev_mName (x : Int) {D : Nat → Int → Int} {X : cm_X} : cm_x 223 0 [some (.inr (.inr 613)), some (.inl (x))] [] (cm_hp D X) = some (.inl (some (.inl (if 0 ≤ x ∧ x < 12 then 1 else 0))), cm_hp D X) := by
  rw [sg_X9_isName_0, ev_isIn, aft_v, sg_X9_isName_7]
  by_cases h : 0 ≤ x ∧ x < 12
  · rw [if_pos (by omega : 0 ≤ x ∧ x ≤ 11), if_pos h, ck_t (Or.inr rfl)]
  · rw [if_neg (by omega : ¬ (0 ≤ x ∧ x ≤ 11)), if_neg h, ck_t (Or.inl rfl)]
def mHas (r : Int → Int) (n : Int) : Int := if 0 ≤ n ∧ n < 12 ∧ r n ≠ -1 then 1 else 0
theorem ev_mFile (n : Int) {D : Nat → Int → Int} {X : cm_X} : cm_x 224 0 [some (.inr (.inr 613)), some (.inl (n))] [] (cm_hp D X) = some (.inl (some (.inl (mHas (D 617) n))), cm_hp D X) := by
  rw [sg_X9_isFile_0, ev_mName, aft_v, sg_X9_isFile_5]
  unfold mHas
  by_cases h : 0 ≤ n ∧ n < 12
  · have e : cm_wr (0 + n) = n := by rw [Int.zero_add]; exact cm_wr_id (by omega) (by omega)
    rw [if_pos h, if_neg (by omega), e, ck_t (by omega)]
    by_cases h2 : D 617 n = -1
    · rw [if_pos h2, if_neg (by omega)]
    · rw [if_neg h2, if_pos (by omega)]
  · rw [if_neg h, if_pos rfl, if_neg (by omega)]
theorem ev_mFiles {D : Nat → Int → Int} {X : cm_X} : cm_x 194 0 [some (.inr (.inr 613)), none, none] [] (cm_hp D X) = some (.inl (some (.inl (smw (mHas (D 617)) 12))), cm_hp D X) := by
  rw [sg_X9_filesNow_0]
  have h := lp_sum (n := 12) (f := mHas (D 617)) (X := fun i a => cm_x 194 4 [some (.inr (.inr 613)), some (.inl (a)), some (.inl (i))] [] (cm_hp D X)) (fun i a h1 h2 => by
    show cm_x 194 4 [some (.inr (.inr 613)), some (.inl (a)), some (.inl (i))] [] (cm_hp D X) = _
    have e : cm_wr (i + 1) = i + 1 := cm_wr_id (by omega) (by omega)
    have e0 : cm_wr (0 + i) = i := by rw [Int.zero_add]; exact cm_wr_id (by omega) (by omega)
    rw [sg_X9_filesNow_4, if_pos (by omega), e, e0, ck_t (by omega)]
    unfold mHas
    by_cases h3 : D 617 i = -1
    · rw [if_pos h3, if_neg (by omega)]
    · rw [if_neg h3, if_pos (by omega)])
  refine Eq.trans h ?_
  show cm_x 194 4 [some (.inr (.inr 613)), some (.inl (smw (mHas (D 617)) 12)), some (.inl (12))] [] (cm_hp D X) = _
  rw [sg_X9_filesNow_4, if_neg (by omega)]
def mCh (r : Int → Int) (n : Int) : Int := r (24 + n)
theorem ev_mChanged {D : Nat → Int → Int} {X : cm_X} : cm_x 195 0 [some (.inr (.inr 613)), none, none] [] (cm_hp D X) = some (.inl (some (.inl (smw (mCh (D 617)) 12))), cm_hp D X) := by
  rw [sg_X9_changedFiles_0]
  have h := lp_sum (n := 12) (f := mCh (D 617)) (X := fun i a => cm_x 195 4 [some (.inr (.inr 613)), some (.inl (a)), some (.inl (i))] [] (cm_hp D X)) (fun i a h1 h2 => by
    show cm_x 195 4 [some (.inr (.inr 613)), some (.inl (a)), some (.inl (i))] [] (cm_hp D X) = _
    have e : cm_wr (i + 1) = i + 1 := cm_wr_id (by omega) (by omega)
    have e0 : cm_wr (24 + i) = 24 + i := cm_wr_id (by omega) (by omega)
    rw [sg_X9_changedFiles_4, if_pos (by omega), e, e0, ck_t (by omega)]
    rfl)
  refine Eq.trans h ?_
  show cm_x 195 4 [some (.inr (.inr 613)), some (.inl (smw (mCh (D 617)) 12)), some (.inl (12))] [] (cm_hp D X) = _
  rw [sg_X9_changedFiles_4, if_neg (by omega)]
def mAny (r : Int → Int) : Int := if r 241 = 1 then 1 else if 0 < smw (mCh r) 12 then 1 else 0
theorem ev_mAny {D : Nat → Int → Int} {X : cm_X} : cm_x 196 0 [some (.inr (.inr 613))] [] (cm_hp D X) = some (.inl (some (.inl (mAny (D 617)))), cm_hp D X) := by
  rw [sg_X9_hasChanged_0]
  unfold mAny
  by_cases h : D 617 241 = 1
  · rw [if_pos h, if_pos h]
  · rw [if_neg h, if_neg h, ev_mChanged, aft_v, sg_X9_hasChanged_16]
    by_cases h2 : 0 < smw (mCh (D 617)) 12
    · rw [if_pos h2, if_pos h2]
    · rw [if_neg h2, if_neg h2]
def mNew (r : Int → Int) (n c : Int) : Int := if r (36 + 8 * n + c) = -1 then 1 else 0
def mOk (r : Int → Int) : Prop := ∀ n : Int, 0 ≤ n → n < 12 → 0 ≤ r (12 + n) ∧ r (12 + n) ≤ 8
def mNs (r : Int → Int) (n : Int) : Int := smw (mNew r n) (r (12 + n)).toNat
theorem ev_mNewCells {D : Nat → Int → Int} {X : cm_X} (hl : mOk (D 617)) {n : Int} (h0 : 0 ≤ n) (h1 : n < 12) : cm_x 197 0 [some (.inr (.inr 613)), some (.inl (n)), none, none] [] (cm_hp D X) = some (.inl (some (.inl (mNs (D 617) n))), cm_hp D X) := by
  rw [sg_X9_newCells_0]
  obtain ⟨l0, l1⟩ := hl n h0 h1
  have e0 : cm_wr (12 + n) = 12 + n := cm_wr_id (by omega) (by omega)
  have h := lp_sum (n := (D 617 (12 + n)).toNat) (f := mNew (D 617) n) (X := fun i a => cm_x 197 4 [some (.inr (.inr 613)), some (.inl (n)), some (.inl (a)), some (.inl (i))] [] (cm_hp D X)) (fun i a h2 h3 => by
    show cm_x 197 4 [some (.inr (.inr 613)), some (.inl (n)), some (.inl (a)), some (.inl (i))] [] (cm_hp D X) = _
    have e : cm_wr (i + 1) = i + 1 := cm_wr_id (by omega) (by omega)
    have e2 : cm_wr (8 * n) = 8 * n := cm_wr_id (by omega) (by omega)
    have e3 : cm_wr (36 + 8 * n) = 36 + 8 * n := cm_wr_id (by omega) (by omega)
    have e4 : cm_wr (36 + 8 * n + i) = 36 + 8 * n + i := cm_wr_id (by omega) (by omega)
    rw [sg_X9_newCells_4, e0, ck_t (by omega), if_pos (by omega), e, e2, e3, e4, ck_t (by omega)]
    unfold mNew
    by_cases h3 : D 617 (36 + 8 * n + i) = -1
    · rw [if_pos h3, if_pos h3]
    · rw [if_neg h3, if_neg h3])
  refine Eq.trans h ?_
  show cm_x 197 4 [some (.inr (.inr 613)), some (.inl (n)), some (.inl (mNs (D 617) n)), some (.inl (((D 617 (12 + n)).toNat : Nat)))] [] (cm_hp D X) = _
  rw [sg_X9_newCells_4, e0, ck_t (by omega), if_neg (by omega)]
def mNq (r : Int → Int) (n : Int) : Int := if r n = -1 then 0 else mNs r n
theorem ev_mNewAll {D : Nat → Int → Int} {X : cm_X} (hl : mOk (D 617)) : cm_x 198 0 [some (.inr (.inr 613)), none, none] [] (cm_hp D X) = some (.inl (some (.inl (smw (mNq (D 617)) 12))), cm_hp D X) := by
  rw [sg_X9_newAll_0]
  have h := lp_sum (n := 12) (f := mNq (D 617)) (X := fun i a => cm_x 198 4 [some (.inr (.inr 613)), some (.inl (a)), some (.inl (i))] [] (cm_hp D X)) (fun i a h1 h2 => by
    show cm_x 198 4 [some (.inr (.inr 613)), some (.inl (a)), some (.inl (i))] [] (cm_hp D X) = _
    have e : cm_wr (i + 1) = i + 1 := cm_wr_id (by omega) (by omega)
    have e0 : cm_wr (0 + i) = i := by rw [Int.zero_add]; exact cm_wr_id (by omega) (by omega)
    rw [sg_X9_newAll_4, if_pos (by omega), e0, ck_t (by omega), e]
    unfold mNq
    by_cases h3 : D 617 i = -1
    · rw [if_pos h3, if_pos h3]
    · rw [if_neg h3, if_neg h3, ev_mNewCells hl (by omega) (by omega), aft_v, sg_X9_newAll_28, e])
  refine Eq.trans h ?_
  show cm_x 198 4 [some (.inr (.inr 613)), some (.inl (smw (mNq (D 617)) 12)), some (.inl (12))] [] (cm_hp D X) = _
  rw [sg_X9_newAll_4, if_neg (by omega)]
def mCf (r : Int → Int) (n : Int) : Int := if r (24 + n) = 1 then cm_wr (mNs r n + 1) else 0
def mThs (r : Int → Int) : Int := smf (cm_wr (r 241 + 1)) (mCf r) 12
theorem ev_mThings {D : Nat → Int → Int} {X : cm_X} (hl : mOk (D 617)) : cm_x 260 0 [some (.inr (.inr 613)), none, none] [] (cm_hp D X) = some (.inl (some (.inl (mThs (D 617)))), cm_hp D X) := by
  rw [sg_X9_things_0]
  have h := lp_smf (n := 12) (f := mCf (D 617)) (a0 := cm_wr (D 617 241 + 1)) (X := fun i a => cm_x 260 13 [some (.inr (.inr 613)), some (.inl (a)), some (.inl (i))] [] (cm_hp D X)) (fun i a h1 h2 => by
    show cm_x 260 13 [some (.inr (.inr 613)), some (.inl (a)), some (.inl (i))] [] (cm_hp D X) = _
    have e : cm_wr (i + 1) = i + 1 := cm_wr_id (by omega) (by omega)
    have e0 : cm_wr (24 + i) = 24 + i := cm_wr_id (by omega) (by omega)
    rw [sg_X9_things_13, if_pos (by omega), e0, ck_t (by omega), e]
    unfold mCf
    by_cases h3 : D 617 (24 + i) = 1
    · rw [if_pos h3, if_pos h3, ev_mNewCells hl (by omega) (by omega), aft_v, sg_X9_things_38, e]
    · rw [if_neg h3, if_neg h3])
  refine Eq.trans h ?_
  show cm_x 260 13 [some (.inr (.inr 613)), some (.inl (mThs (D 617))), some (.inl (12))] [] (cm_hp D X) = _
  rw [sg_X9_things_13, if_neg (by omega)]
def mNm (r : Int → Int) (v : Int) : Int := fnd (fun n => decide (r n = v)) (-1) 12 0
theorem ev_mNameOf {D : Nat → Int → Int} {X : cm_X} (v : Int) : cm_x 200 0 [some (.inr (.inr 613)), some (.inl (v)), none] [] (cm_hp D X) = some (.inl (some (.inl (mNm (D 617) v))), cm_hp D X) := by
  rw [sg_X9_nameOf_0]
  refine lp_fnd (k := 12) (i := 0) (X := fun n => cm_x 200 2 [some (.inr (.inr 613)), some (.inl (v)), some (.inl (n))] [] (cm_hp D X)) (A := fun n => some (.inl (some (.inl (n))), cm_hp D X)) (p := fun n => decide (D 617 n = v)) (fun j h1 h2 => ?_) ?_
  · show cm_x 200 2 [some (.inr (.inr 613)), some (.inl (v)), some (.inl (j))] [] (cm_hp D X) = if decide (D 617 j = v) = true then some (.inl (some (.inl (j))), cm_hp D X) else cm_x 200 2 [some (.inr (.inr 613)), some (.inl (v)), some (.inl (j + 1))] [] (cm_hp D X)
    have e : cm_wr (j + 1) = j + 1 := cm_wr_id (by omega) (by omega)
    have e0 : cm_wr (0 + j) = j := by rw [Int.zero_add]; exact cm_wr_id (by omega) (by omega)
    rw [sg_X9_nameOf_2, if_pos (by omega), e0, ck_t (by omega), e]
    by_cases h3 : D 617 j = v
    · rw [if_pos h3, if_pos (by simpa using h3)]
    · rw [if_neg h3, if_neg (by simpa using h3)]
  · show cm_x 200 2 [some (.inr (.inr 613)), some (.inl (v)), some (.inl (12))] [] (cm_hp D X) = _
    rw [sg_X9_nameOf_2, if_neg (by omega)]
/-- a State (its cells from S 0 on) and a row of the model -/
def rS (S : Nat → Int → Int) (r : Int → Int) : Prop := (∀ n : Int, 0 ≤ n → n < 12 → r n = (if S 1 n = 0 then -1 else S 1 n) ∧ r (12 + n) = S 2 n ∧ r (24 + n) = S 3 n) ∧ (∀ n c : Int, 0 ≤ n → n < 12 → 0 ≤ c → c < S 2 n → r (36 + 8 * n + c) = S 4 (n * 8 + c) ∧ r (132 + 8 * n + c) = S 5 (n * 8 + c)) ∧ (∀ v : Int, 0 ≤ v → v < 13 → r (228 + v) = S 6 v) ∧ r 241 = S 0 6 ∧ r 242 = S 0 7 ∧ r 243 = S 0 8 ∧ r 244 = S 0 9 ∧ r 245 = S 0 10
/-- what a State's numbers are, by themselves -/
def nS (S : Nat → Int → Int) : Prop := (S 0 6 = 0 ∨ S 0 6 = 1) ∧ (∀ n : Int, 0 ≤ n → n < 12 → (0 ≤ S 1 n ∧ S 1 n ≤ 12) ∧ (0 ≤ S 2 n ∧ S 2 n ≤ 8) ∧ (S 3 n = 0 ∨ S 3 n = 1) ∧ (S 1 n = 0 → S 2 n = 0 ∧ S 3 n = 0)) ∧ ∀ n m : Int, 0 ≤ n → n < 12 → 0 ≤ m → m < 12 → S 1 n = S 1 m → S 1 n ≠ 0 → n = m
abbrev stt (D : Nat → Int → Int) (a : Nat) : Nat → Int → Int := fun j => D (a + j)
section EQ
variable {D : Nat → Int → Int} {r : Int → Int} (hr : rS (stt D 15) r) (hn : nS (stt D 15))
theorem eq_lok (hn : nS (stt D 15)) : lOk D := fun n h1 h2 => (hn.2.1 n h1 h2).2.1
theorem eq_mok (hr : rS (stt D 15) r) (hn : nS (stt D 15)) : mOk r := fun n h1 h2 => by
  rw [(hr.1 n h1 h2).2.1]
  exact (hn.2.1 n h1 h2).2.1
theorem eq_v (hr : rS (stt D 15) r) {n : Int} (h1 : 0 ≤ n) (h2 : n < 12) : r n = (if D 16 n = 0 then -1 else D 16 n) := (hr.1 n h1 h2).1
theorem eq_has (hr : rS (stt D 15) r) (hn : nS (stt D 15)) (n : Int) : mHas r n = cHas D n := by
  unfold mHas cHas
  by_cases h : 0 ≤ n ∧ n < 12
  · have h1 := eq_v hr h.1 h.2
    have h2 : 0 ≤ D 16 n := (hn.2.1 n h.1 h.2).1.1
    by_cases h3 : D 16 n = 0
    · rw [if_pos h3] at h1
      rw [if_neg (by omega), if_neg (by omega)]
    · rw [if_neg h3] at h1
      rw [if_pos (by omega), if_pos (by omega)]
  · rw [if_neg (by omega), if_neg (by omega)]
theorem eq_files (hr : rS (stt D 15) r) (hn : nS (stt D 15)) : smw (mHas r) 12 = smw (cHas D) 12 := smw_congr fun n _ _ => eq_has hr hn n
theorem eq_ch (hr : rS (stt D 15) r) (hn : nS (stt D 15)) {n : Int} (h1 : 0 ≤ n) (h2 : n < 12) : mCh r n = cCh D n := by
  unfold mCh cCh
  rw [(hr.1 n h1 h2).2.2]
  have h3 : D 18 n = 0 ∨ D 18 n = 1 := (hn.2.1 n h1 h2).2.2.1
  show D 18 n = _
  by_cases h4 : D 18 n = 0
  · rw [if_pos h4, h4]
  · rw [if_neg h4]; omega
theorem eq_changed (hr : rS (stt D 15) r) (hn : nS (stt D 15)) : smw (mCh r) 12 = smw (cCh D) 12 := smw_congr fun n h1 h2 => eq_ch hr hn h1 (by omega)
theorem eq_any (hr : rS (stt D 15) r) (hn : nS (stt D 15)) : mAny r = cAny D := by
  unfold mAny cAny
  have h1 : r 241 = D 15 6 := hr.2.2.2.1
  have h2 : D 15 6 = 0 ∨ D 15 6 = 1 := hn.1
  rw [eq_changed hr hn, h1]
  by_cases h3 : D 15 6 = 0
  · rw [if_neg (by omega), if_pos h3]
  · rw [if_pos (by omega), if_neg h3]
theorem eq_ns (hr : rS (stt D 15) r) (hn : nS (stt D 15)) {n : Int} (h1 : 0 ≤ n) (h2 : n < 12) : mNs r n = cNs D n := by
  unfold mNs cNs
  have e : r (12 + n) = D 17 n := (hr.1 n h1 h2).2.1
  rw [e]
  have hl : 0 ≤ D 17 n := (hn.2.1 n h1 h2).2.1.1
  refine smw_congr fun c h3 h4 => ?_
  unfold mNew cNew
  have e2 : r (36 + 8 * n + c) = D 19 (n * 8 + c) := (hr.2.1 n c h1 h2 h3 (by show c < D 17 n; omega)).1
  rw [e2]
theorem eq_nq (hr : rS (stt D 15) r) (hn : nS (stt D 15)) : smw (mNq r) 12 = smw (cNs D) 12 := smw_congr fun n h1 h2 => by
  unfold mNq
  have h3 := eq_v hr h1 (by omega : n < 12)
  have h4 : 0 ≤ D 16 n := (hn.2.1 n h1 (by omega)).1.1
  by_cases h5 : D 16 n = 0
  · rw [if_pos h5] at h3
    rw [if_pos h3]
    have h6 : D 17 n = 0 := ((hn.2.1 n h1 (by omega)).2.2.2 h5).1
    unfold cNs
    rw [h6]
    rfl
  · rw [if_neg h5] at h3
    rw [if_neg (by omega), eq_ns hr hn h1 (by omega)]
theorem eq_cf (hr : rS (stt D 15) r) (hn : nS (stt D 15)) {n : Int} (h1 : 0 ≤ n) (h2 : n < 12) : mCf r n = cCf D n := by
  unfold mCf cCf
  have e : r (24 + n) = D 18 n := (hr.1 n h1 h2).2.2
  have h3 : D 18 n = 0 ∨ D 18 n = 1 := (hn.2.1 n h1 h2).2.2.1
  rw [e, eq_ns hr hn h1 h2]
  by_cases h4 : D 18 n = 0
  · rw [if_neg (by omega), if_pos h4]
  · rw [if_pos (by omega), if_neg h4]
theorem smf_add {f : Int → Int} {a : Int} : ∀ {n : Nat}, smf (cm_wr (a + 1)) f n = cm_wr (smf a f n + 1) := by
  intro n
  induction n with
  | zero => rfl
  | succ n ih =>
    show cm_wr (smf (cm_wr (a + 1)) f n + f n) = cm_wr (cm_wr (smf a f n + f n) + 1)
    rw [ih]
    unfold cm_wr
    omega
/-- the things of a sync, the map, too -/
theorem eq_things (hr : rS (stt D 15) r) (hn : nS (stt D 15)) : mThs r = cm_wr (cCon D + 1) := by
  unfold mThs cCon
  have h1 : r 241 = D 15 6 := hr.2.2.2.1
  have h2 : D 15 6 = 0 ∨ D 15 6 = 1 := hn.1
  have h3 : cDir D = D 15 6 := by
    unfold cDir
    by_cases h3 : D 15 6 = 0
    · rw [if_pos h3, h3]
    · rw [if_neg h3]; omega
  rw [h1, h3, smf_add, smf_congr (fun n h4 h5 => eq_cf hr hn h4 (by omega))]
theorem smf_zero {a : Int} {f : Int → Int} {m : Int} (hm : 0 ≤ m) (ha : 0 ≤ a) : ∀ {n : Nat}, (∀ i : Int, 0 ≤ i → i < n → 0 ≤ f i ∧ f i ≤ m) → a + m * n < 2147483648 → (smf a f n = 0 ↔ a = 0 ∧ ∀ i : Int, 0 ≤ i → i < n → f i = 0) := by
  intro n
  induction n with
  | zero => intro _ _; exact ⟨fun h => ⟨h, fun i h1 h2 => by omega⟩, fun h => h.1⟩
  | succ n ih =>
    intro h hb
    have e1 : m * ((n + 1 : Nat) : Int) = m * n + m := by rw [Int.natCast_add, Int.mul_add]; simp
    rw [e1] at hb
    have hs := smf_le hm ha (n := n) (f := f) (fun i h3 h4 => h i h3 (by omega)) (by omega)
    have ih := ih (fun i h3 h4 => h i h3 (by omega)) (by omega)
    have h3 := h n (by omega) (by omega)
    show cm_wr (smf a f n + f n) = 0 ↔ _
    rw [cm_wr_id (by omega) (by omega)]
    constructor
    · intro h4
      obtain ⟨i1, i2⟩ := ih.mp (by omega)
      refine ⟨i1, fun i h5 h6 => ?_⟩
      by_cases h7 : i = n
      · rw [h7]; omega
      · exact i2 i h5 (by omega)
    · rintro ⟨i1, i2⟩
      have := ih.mpr ⟨i1, fun i h5 h6 => i2 i h5 (by omega)⟩
      have := i2 n (by omega) (by omega)
      omega
/-- nothing to write: nothing has changed -/
theorem eq_con0 (hn : nS (stt D 15)) : cCon D = 0 ↔ cAny D = 0 := by
  have hl := eq_lok hn
  have h2 : D 15 6 = 0 ∨ D 15 6 = 1 := hn.1
  have hd : 0 ≤ cDir D := by
    unfold cDir
    by_cases h : D 15 6 = 0
    · rw [if_pos h]; omega
    · rw [if_neg h]; omega
  have h3 := smf_zero (a := cDir D) (m := 9) (by omega) hd (f := cCf D) (n := 12) (fun i h1 h2 => cCf_b hl h1 (by omega)) (by unfold cDir; by_cases h : D 15 6 = 0 <;> simp [h])
  have h4 := smw_pos (f := cCh D) (n := 12) (fun i _ _ => by
    unfold cCh
    by_cases h : D 18 i = 0
    · rw [if_pos h]; omega
    · rw [if_neg h]; omega) (by omega)
  unfold cCon
  rw [h3]
  unfold cAny
  by_cases h5 : D 15 6 = 0
  · rw [if_pos h5]
    have h6 : cDir D = 0 := by unfold cDir; rw [if_pos h5]
    constructor
    · rintro ⟨-, h7⟩
      rw [if_neg]
      rw [h4]
      rintro ⟨i, a1, a2, a3⟩
      have h8 := h7 i a1 a2
      unfold cCf at h8
      unfold cCh at a3
      by_cases h9 : D 18 i = 0
      · rw [if_pos h9] at a3; omega
      · rw [if_neg h9] at h8
        have := cNs_b hl a1 (by omega : i < 12)
        rw [cm_wr_id (by omega) (by omega)] at h8
        omega
    · intro h7
      refine ⟨h6, fun i a1 a2 => ?_⟩
      have h8 : ¬ 0 < smw (cCh D) 12 := by
        intro h8
        rw [if_pos h8] at h7
        omega
      unfold cCf
      by_cases h9 : D 18 i = 0
      · rw [if_pos h9]
      · exfalso
        exact h8 (h4.mpr ⟨i, a1, a2, by unfold cCh; rw [if_neg h9]⟩)
  · rw [if_neg h5]
    have h6 : cDir D = 1 := by unfold cDir; rw [if_neg h5]
    constructor
    · intro h7; omega
    · intro h7; omega
theorem eq_nm (hr : rS (stt D 15) r) (hn : nS (stt D 15)) {v : Int} (hv : 1 ≤ v) : mNm r v = cNm D v := by
  unfold mNm cNm
  refine fnd_congr fun n h1 h2 => ?_
  have h3 := eq_v hr h1 (by omega : n < 12)
  have h4 : 0 ≤ D 16 n := (hn.2.1 n h1 (by omega)).1.1
  by_cases h5 : D 16 n = 0
  · rw [if_pos h5] at h3
    rw [h3, h5]
    have a1 : ¬ (-1 : Int) = v := by omega
    have a2 : ¬ (0 : Int) = v := by omega
    simp [a1, a2]
  · rw [if_neg h5] at h3
    rw [h3]
end EQ
