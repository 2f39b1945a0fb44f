/-! tokens of a text: both -/
variable {C C' D E E' F : Nat → Int → Int} {X Y : cm_X} {T : Int → Int} {len : Int}
theorem R0_begin : cm_up cm_R0 3 0 1 = cm_R0 := by
  funext a i
  unfold cm_up
  by_cases ha : a = 3
  · rw [if_pos ha, ha]
    unfold cm_u1
    by_cases hi : i = 0
    · rw [if_pos hi, hi]
      rfl
    · rw [if_neg hi]
  · rw [if_neg ha]
theorem sg_X7_begin_0 (D : Nat → Int → Int) (X : cm_X) (x2 : Int) : cm_x 95 0 [some (.inr (.inr 3)), some (.inr (.inr 1)), some (.inl (x2))] [] (cm_hp D X) = cm_aft 95 21 24 [some (.inr (.inr 3)), some (.inr (.inr 1)), some (.inl (x2))] [] (cm_x 96 0 [some (.inr (.inr 3))] [] (cm_hp (cm_up (cm_up D 3 1 (cm_mn x2 700)) 3 2 0) X)) := by
  have h : cm_x 95 0 [some (.inr (.inr 3)), some (.inr (.inr 1)), some (.inl (x2))] [] (cm_hp D X) = cm_aft 95 21 24 [some (.inr (.inr 3)), some (.inr (.inr 1)), some (.inl (x2))] [] (cm_x 96 0 [some (.inr (.inr 3))] [] (cm_K0 X.2.2.2, cm_up cm_R0 3 0 1, cm_up (cm_up D 3 1 (cm_mn x2 700)) 3 2 0, X.1, 634, X.2.1, X.2.2.1)) := (cm_un_eq [24] 95 15 0 _ _ _).symm.trans rfl
  rw [h, R0_begin]
  rfl
theorem sg_X7_begin_24 (D : Nat → Int → Int) (X : cm_X) (x2 : Int) : cm_x 95 24 [some (.inr (.inr 3)), some (.inr (.inr 1)), some (.inl (x2))] [] (cm_hp D X) = some (.inl none, cm_hp D X) := (cm_un_eq [24] 95 2 24 _ _ _).symm.trans rfl
theorem up_up {D : Nat → Int → Int} {a : Nat} {i v w : Int} : cm_up (cm_up D a i v) a i w = cm_up D a i w := by
  rw [up_to_ua, up_same, u1_u1, up_to_ua, ua_ua, ← up_to_ua]
/-- the text, as both have it -/
def txR (C E : Nat → Int → Int) (len : Int) : Prop := C 3 1 = len ∧ E 613 11 = len ∧ (0 ≤ len ∧ len ≤ 700) ∧ ∀ j, 0 ≤ j → j < 700 → E 621 j = C 1 j ∧ 0 ≤ C 1 j ∧ C 1 j ≤ 255
theorem ev_byte (h : txR C E len) {p : Int} (p0 : 0 ≤ p) : cm_x 168 0 [some (.inr (.inr 613)), some (.inl (p))] [] (cm_hp E Y) = some (.inl (some (.inl (if p < len then C 1 p else -1))), cm_hp E Y) := by
  obtain ⟨-, h2, h3, h4⟩ := h
  rw [sg_X9_byteAt_0, h2]
  by_cases hp : p < len
  · rw [if_pos hp, if_pos hp, ck_t (by omega), (h4 p p0 (by omega)).1]
  · rw [if_neg hp, if_neg hp]
theorem ev_isL (c : Int) : cm_x 169 0 [some (.inl (c))] [] (cm_hp E X) = some (.inl (some (.inl (if 97 ≤ c ∧ c ≤ 122 then 1 else 0))), cm_hp E X) := by
  rw [sg_X9_isLetter_0]
  by_cases h1 : c < 97
  · rw [if_pos h1, if_neg (by omega)]
  · rw [if_neg h1]
    by_cases h2 : 122 < c
    · rw [if_pos h2, if_neg (by omega)]
    · rw [if_neg h2, if_pos (by omega)]
theorem ev_isG (c : Int) : cm_x 170 0 [some (.inl (c))] [] (cm_hp E X) = some (.inl (some (.inl (if 48 ≤ c ∧ c ≤ 57 then 1 else 0))), cm_hp E X) := by
  rw [sg_X9_isDigit_0]
  by_cases h1 : c < 48
  · rw [if_pos h1, if_neg (by omega)]
  · rw [if_neg h1]
    by_cases h2 : 57 < c
    · rw [if_pos h2, if_neg (by omega)]
    · rw [if_neg h2, if_pos (by omega)]
theorem txR_c {p : Int} (h : txR C E len) : txR (cm_up C 3 3 p) E len := h
theorem txR_e {p : Int} (h : txR C E len) : txR C (cm_up E 613 10 p) len := h
/-- blanks are passed -/
theorem tk_skip (h : txR C E len) (X Y : cm_X) : ∀ (k : Nat) (p : Int), len - p ≤ k → 0 ≤ p → p ≤ len → ∃ a, p ≤ a ∧ a ≤ len ∧ (a < len → C 1 a ≠ 32 ∧ C 1 a ≠ 10) ∧ cm_x 96 8 [some (.inr (.inr 3))] [] (cm_hp (cm_up C 3 3 p) X) = cm_x 96 8 [some (.inr (.inr 3))] [] (cm_hp (cm_up C 3 3 a) X) ∧ cm_x 171 0 [some (.inr (.inr 613)), none] [] (cm_hp (cm_up E 613 10 p) Y) = cm_x 171 0 [some (.inr (.inr 613)), none] [] (cm_hp (cm_up E 613 10 a) Y) := by
  intro k
  induction k with
  | zero => intro p h1 h2 h3; exact ⟨p, by omega, by omega, fun z => by omega, rfl, rfl⟩
  | succ k ih =>
    intro p h1 h2 h3
    by_cases hb : p < len ∧ (C 1 p = 32 ∨ C 1 p = 10)
    · obtain ⟨a, a1, a2, a3, a4, a5⟩ := ih (p + 1) (by omega) (by omega) (by omega)
      have hl := h.2.2.1
      have q33 : (cm_up C 3 3 p) 3 3 = p := rfl
      have q31 : (cm_up C 3 3 p) 3 1 = len := h.1
      have q1 : (cm_up C 3 3 p) 1 = C 1 := rfl
      have e10 : (cm_up E 613 10 p) 613 10 = p := rfl
      have w : cm_wr (p + 1) = p + 1 := cm_wr_id (by omega) (by omega)
      refine ⟨a, by omega, a2, a3, ?_, ?_⟩
      · rw [← a4, sg_X7_advance_8, q33, q31, if_pos hb.1, ck_t (by omega), q1, w, up_up]
        by_cases h32 : C 1 p = 32
        · rw [if_pos h32]
        · rw [if_neg h32, ck_t (by omega), if_pos (by omega)]
      · rw [← a5, sg_X9_stepOn_0, e10, ev_byte (txR_e h) h2, aft_v, sg_X9_stepOn_8, if_pos hb.1, e10, w, up_up]
        by_cases h32 : C 1 p = 32
        · rw [if_pos h32]
        · rw [if_neg h32, ev_byte (txR_e h) h2, aft_v, sg_X9_stepOn_21, if_pos hb.1, if_pos (by omega), e10, w, up_up]
    · exact ⟨p, by omega, by omega, fun z => ⟨fun w => hb ⟨z, Or.inl w⟩, fun w => hb ⟨z, Or.inr w⟩⟩, rfl, rfl⟩
/-- a row of letters -/
theorem tk_let (h : txR C E len) (X Y : cm_X) (c : Int) : ∀ (k : Nat) (p : Int), len - p ≤ k → 0 ≤ p → p ≤ len → ∃ e, p ≤ e ∧ e ≤ len ∧ ((p < len ∧ 97 ≤ C 1 p ∧ C 1 p ≤ 122) → p < e) ∧ cm_x 97 5 [some (.inr (.inr 3)), some (.inl (97)), some (.inl (122)), some (.inl (p))] [] (cm_hp C X) = some (.inl (some (.inl (e))), cm_hp C X) ∧ cm_x 171 76 [some (.inr (.inr 613)), some (.inl (c))] [] (cm_hp (cm_up E 613 10 p) Y) = some (.inl none, cm_hp (cm_up (cm_up (cm_up E 613 10 e) 613 12 1) 613 15 e) Y) := by
  have hl := h.2.2.1
  intro k
  induction k with
  | zero =>
    intro p h1 h2 h3
    have e10 : (cm_up E 613 10 p) 613 10 = p := rfl
    refine ⟨p, by omega, by omega, fun z => by omega, ?_, ?_⟩
    · rw [sg_X7_endOfRow_5, h.1, if_neg (by omega)]
    · rw [sg_X9_stepOn_76, e10, ev_byte (txR_e h) h2, aft_v, sg_X9_stepOn_84, ev_isL, aft_v, if_neg (by omega), sg_X9_stepOn_87, if_pos rfl, e10]
  | succ k ih =>
    intro p h1 h2 h3
    have e10 : (cm_up E 613 10 p) 613 10 = p := rfl
    have w : cm_wr (p + 1) = p + 1 := cm_wr_id (by omega) (by omega)
    by_cases hb : p < len ∧ 97 ≤ C 1 p ∧ C 1 p ≤ 122
    · obtain ⟨e, a1, a2, a3, a4, a5⟩ := ih (p + 1) (by omega) (by omega) (by omega)
      refine ⟨e, by omega, a2, fun _ => by omega, ?_, ?_⟩
      · rw [← a4, sg_X7_endOfRow_5, h.1, if_pos hb.1, ck_t (by omega), if_neg (by omega), ck_t (by omega), if_neg (by omega), w]
      · rw [← a5, sg_X9_stepOn_76, e10, ev_byte (txR_e h) h2, aft_v, sg_X9_stepOn_84, ev_isL, aft_v, if_pos hb.1, if_pos hb.2, sg_X9_stepOn_87, if_neg (by omega), e10, w, up_up]
    · refine ⟨p, by omega, by omega, fun z => absurd z hb, ?_, ?_⟩
      · rw [sg_X7_endOfRow_5, h.1]
        by_cases hp : p < len
        · rw [if_pos hp, ck_t (by omega)]
          by_cases hq : C 1 p < 97
          · rw [if_pos hq]
          · rw [if_neg hq, ck_t (by omega), if_pos (by omega)]
        · rw [if_neg hp]
      · rw [sg_X9_stepOn_76, e10, ev_byte (txR_e h) h2, aft_v, sg_X9_stepOn_84, ev_isL, aft_v, if_neg (show ¬ (97 ≤ (if p < len then C 1 p else -1) ∧ (if p < len then C 1 p else -1) ≤ 122) by
          by_cases hp : p < len
          · rw [if_pos hp]; omega
          · rw [if_neg hp]; omega), sg_X9_stepOn_87, if_pos rfl, e10]
/-- the value of so many digits -/
def nv (T : Int → Int) (a : Int) : Nat → Int
  | 0 => 0
  | k + 1 => 10 * nv T a k + T (a + k) - 48
theorem nv_b {a : Int} : ∀ k : Nat, k ≤ 4 → (∀ j, a ≤ j → j < a + k → 48 ≤ T j ∧ T j ≤ 57) → 0 ≤ nv T a k ∧ (k = 0 → nv T a k = 0) ∧ (k = 1 → nv T a k ≤ 9) ∧ (k = 2 → nv T a k ≤ 99) ∧ (k = 3 → nv T a k ≤ 999) ∧ (k = 4 → nv T a k ≤ 9999) := by
  intro k
  induction k with
  | zero => intro _ _; exact ⟨Int.le_refl _, fun _ => rfl, fun z => by omega, fun z => by omega, fun z => by omega, fun z => by omega⟩
  | succ k ih =>
    intro hk hd
    obtain ⟨i0, i1, i2, i3, i4, i5⟩ := ih (by omega) (fun j j0 j1 => hd j j0 (by omega))
    have hj := hd (a + k) (by omega) (by omega)
    have e : nv T a (k + 1) = 10 * nv T a k + T (a + k) - 48 := rfl
    rw [e]
    refine ⟨by omega, fun z => by omega, fun z => ?_, fun z => ?_, fun z => ?_, fun z => ?_⟩
    · have := i1 (by omega); omega
    · have := i2 (by omega); omega
    · have := i3 (by omega); omega
    · have := i4 (by omega); omega
theorem nv_5 {a : Int} {k : Nat} (hk : k ≤ 4) (hd : ∀ j, a ≤ j → j < a + k → 48 ≤ T j ∧ T j ≤ 57) : 0 ≤ nv T a k ∧ nv T a k ≤ 9999 := by
  obtain ⟨i0, i1, i2, i3, i4, i5⟩ := nv_b (T := T) (a := a) k hk hd
  have : k = 0 ∨ k = 1 ∨ k = 2 ∨ k = 3 ∨ k = 4 := by omega
  rcases this with z | z | z | z | z
  · have := i1 z; omega
  · have := i2 z; omega
  · have := i3 z; omega
  · have := i4 z; omega
  · have := i5 z; omega
/-- a row of digits: where it ends, the class -/
theorem tk_end (h : txR C E len) (X : cm_X) : ∀ (k : Nat) (p : Int), len - p ≤ k → 0 ≤ p → p ≤ len → ∃ e, p ≤ e ∧ e ≤ len ∧ (∀ j, p ≤ j → j < e → 48 ≤ C 1 j ∧ C 1 j ≤ 57) ∧ ¬ (e < len ∧ 48 ≤ C 1 e ∧ C 1 e ≤ 57) ∧ cm_x 97 5 [some (.inr (.inr 3)), some (.inl (48)), some (.inl (57)), some (.inl (p))] [] (cm_hp C X) = some (.inl (some (.inl (e))), cm_hp C X) := by
  have hl := h.2.2.1
  intro k
  induction k with
  | zero =>
    intro p h1 h2 h3
    refine ⟨p, by omega, by omega, fun j j0 j1 => by omega, fun z => by omega, ?_⟩
    rw [sg_X7_endOfRow_5, h.1, if_neg (by omega)]
  | succ k ih =>
    intro p h1 h2 h3
    have w : cm_wr (p + 1) = p + 1 := cm_wr_id (by omega) (by omega)
    by_cases hb : p < len ∧ 48 ≤ C 1 p ∧ C 1 p ≤ 57
    · obtain ⟨e, a1, a2, a3, a4, a5⟩ := ih (p + 1) (by omega) (by omega) (by omega)
      refine ⟨e, by omega, a2, fun j j0 j1 => ?_, a4, ?_⟩
      · by_cases hj : j = p
        · rw [hj]; exact hb.2
        · exact a3 j (by omega) j1
      · rw [← a5, sg_X7_endOfRow_5, h.1, if_pos hb.1, ck_t (by omega), if_neg (by omega), ck_t (by omega), if_neg (by omega), w]
    · refine ⟨p, by omega, by omega, fun j j0 j1 => by omega, hb, ?_⟩
      rw [sg_X7_endOfRow_5, h.1]
      by_cases hp : p < len
      · rw [if_pos hp, ck_t (by omega)]
        by_cases hq : C 1 p < 48
        · rw [if_pos hq]
        · rw [if_neg hq, ck_t (by omega), if_pos (by omega)]
      · rw [if_neg hp]
/-- the class takes the value -/
theorem tk_val (h : txR C E len) (X : cm_X) {a e : Int} (a0 : 0 ≤ a) (ae : a ≤ e) (el : e ≤ len) (hd : ∀ j, a ≤ j → j < e → 48 ≤ C 1 j ∧ C 1 j ≤ 57) (q2 : C 3 2 = e) (q3 : C 3 3 = a) : ∃ v, cm_x 98 0 [some (.inr (.inr 3)), none] [] (cm_hp C X) = some (.inl none, cm_hp (cm_up (cm_up C 3 6 (e - a)) 3 5 v) X) ∧ (e - a ≤ 4 → v = nv (C 1) a (e - a).toNat) := by
  have hl := h.2.2.1
  have key : ∀ m : Int, 0 ≤ m → m ≤ e - a → m ≤ 4 → cm_x 98 23 [some (.inr (.inr 3)), some (.inl (a))] [] (cm_hp (cm_up (cm_up C 3 6 (e - a)) 3 5 0) X) = cm_x 98 23 [some (.inr (.inr 3)), some (.inl (a + m))] [] (cm_hp (cm_up (cm_up C 3 6 (e - a)) 3 5 (nv (C 1) a m.toNat)) X) := by
    intro m m0 m1 m4
    obtain ⟨s, L, P⟩ := lp_inv (X := fun j (v : Int) => cm_x 98 23 [some (.inr (.inr 3)), some (.inl (a + j))] [] (cm_hp (cm_up (cm_up C 3 6 (e - a)) 3 5 v) X)) (P := fun j v => v = nv (C 1) a j.toNat) (lo := 0) (hi := m) (fun j v j0 j1 hP => by
      have z32 : (cm_up (cm_up C 3 6 (e - a)) 3 5 v) 3 2 = e := q2
      have z33 : (cm_up (cm_up C 3 6 (e - a)) 3 5 v) 3 3 = a := q3
      have z35 : (cm_up (cm_up C 3 6 (e - a)) 3 5 v) 3 5 = v := rfl
      have z1 : (cm_up (cm_up C 3 6 (e - a)) 3 5 v) 1 = C 1 := rfl
      have hb := nv_5 (T := C 1) (a := a) (k := j.toNat) (by omega) (fun i i0 i1 => hd i i0 (by omega))
      have hdj := hd (a + j) (by omega) (by omega)
      rw [← hP] at hb
      have en : nv (C 1) a (j + 1).toNat = 10 * v + C 1 (a + j) - 48 := by
        rw [toN_s j0, hP]
        show 10 * nv (C 1) a j.toNat + C 1 (a + (j.toNat : Int)) - 48 = _
        rw [show ((j.toNat : Nat) : Int) = j by omega]
      refine ⟨nv (C 1) a (j + 1).toNat, ?_, rfl⟩
      show cm_x 98 23 [some (.inr (.inr 3)), some (.inl (a + j))] [] (cm_hp (cm_up (cm_up C 3 6 (e - a)) 3 5 v) X) = cm_x 98 23 [some (.inr (.inr 3)), some (.inl (a + (j + 1)))] [] (cm_hp (cm_up (cm_up C 3 6 (e - a)) 3 5 (nv (C 1) a (j + 1).toNat)) X)
      rw [sg_X7_takeValue_23, z32, if_pos (by omega), z33, cm_wr_id (x := a + 4) (by omega) (by omega), if_pos (by omega), ck_t (by omega), z35, z1, cm_wr_id (x := v * 10) (by omega) (by omega), cm_wr_id (x := v * 10 + C 1 (a + j)) (by omega) (by omega), cm_wr_id (x := v * 10 + C 1 (a + j) - 48) (by omega) (by omega), cm_wr_id (x := a + j + 1) (by omega) (by omega), up_up, en, show v * 10 + C 1 (a + j) - 48 = 10 * v + C 1 (a + j) - 48 by omega, show a + j + 1 = a + (j + 1) by omega]) 0 m0 rfl
    rw [P] at L
    have L : cm_x 98 23 [some (.inr (.inr 3)), some (.inl (a + 0))] [] (cm_hp (cm_up (cm_up C 3 6 (e - a)) 3 5 0) X) = _ := L
    rw [Int.add_zero] at L
    exact L
  have head : cm_x 98 0 [some (.inr (.inr 3)), none] [] (cm_hp C X) = cm_x 98 23 [some (.inr (.inr 3)), some (.inl (a))] [] (cm_hp (cm_up (cm_up C 3 6 (e - a)) 3 5 0) X) := by
    rw [sg_X7_takeValue_0, q2, q3, cm_wr_id (x := e - a) (by omega) (by omega)]
  by_cases h4 : e - a ≤ 4
  · refine ⟨nv (C 1) a (e - a).toNat, ?_, fun _ => rfl⟩
    have z32 : (cm_up (cm_up C 3 6 (e - a)) 3 5 (nv (C 1) a (e - a).toNat)) 3 2 = e := q2
    rw [head, key (e - a) (by omega) (by omega) h4, sg_X7_takeValue_23, z32, if_neg (by omega)]
  · refine ⟨nv (C 1) a (4 : Int).toNat, ?_, fun z => absurd z h4⟩
    have z32 : (cm_up (cm_up C 3 6 (e - a)) 3 5 (nv (C 1) a (4 : Int).toNat)) 3 2 = e := q2
    have z33 : (cm_up (cm_up C 3 6 (e - a)) 3 5 (nv (C 1) a (4 : Int).toNat)) 3 3 = a := q3
    rw [head, key 4 (by omega) (by omega) (by omega), sg_X7_takeValue_23, z32, if_pos (by omega), z33, cm_wr_id (x := a + 4) (by omega) (by omega), if_neg (by omega)]
