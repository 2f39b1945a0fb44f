/-! reading: numbers, words, the disc's own clause: both -/
variable {C C' D E E' F : Nat → Int → Int} {X Y : cm_X} {T : Int → Int} {len : Int}
def pS (C E : Nat → Int → Int) (len : Int) : Prop := txR C E len ∧ tkR C E len
def pOk (C E : Nat → Int → Int) : Prop := C 2 1 = 0 ∧ E 613 16 = 0
/-- a fault: both have it -/
def pFt (C E : Nat → Int → Int) : Prop := C 2 1 ≠ 0 ∧ E 613 16 = C 2 1 ∧ E 613 17 = C 2 2
def pF (C C' : Nat → Int → Int) : Prop := C' 3 1 = C 3 1 ∧ ∀ x : Nat, x ≠ 2 → x ≠ 3 → x ≠ 5 → x ≠ 6 → x ≠ 7 → x ≠ 8 → C' x = C x
def pE (E E' : Nat → Int → Int) : Prop := (∀ j, j ≠ 10 → j ≠ 12 → j ≠ 13 → j ≠ 14 → j ≠ 15 → j ≠ 16 → j ≠ 17 → j ≠ 19 → j ≠ 20 → E' 613 j = E 613 j) ∧ (∀ j, j < 5 → E' 614 j = E 614 j) ∧ (∀ j, j < 12 → E' 615 j = E 615 j) ∧ ∀ x : Nat, x ≠ 613 → x ≠ 614 → x ≠ 615 → x ≠ 618 → E' x = E x
theorem pF_tr {C2 : Nat → Int → Int} (a : pF C C') (b : pF C' C2) : pF C C2 := ⟨b.1.trans a.1, fun x h1 h2 h3 h4 h5 h6 => (b.2 x h1 h2 h3 h4 h5 h6).trans (a.2 x h1 h2 h3 h4 h5 h6)⟩
theorem pE_tr {E2 : Nat → Int → Int} (a : pE E E') (b : pE E' E2) : pE E E2 := ⟨fun j h1 h2 h3 h4 h5 h6 h7 h8 h9 => (b.1 j h1 h2 h3 h4 h5 h6 h7 h8 h9).trans (a.1 j h1 h2 h3 h4 h5 h6 h7 h8 h9), fun j hj => (b.2.1 j hj).trans (a.2.1 j hj), fun j hj => (b.2.2.1 j hj).trans (a.2.2.1 j hj), fun x h1 h2 h3 h4 => (b.2.2.2 x h1 h2 h3 h4).trans (a.2.2.2 x h1 h2 h3 h4)⟩
theorem pF_rf : pF C C := ⟨rfl, fun _ _ _ _ _ _ _ => rfl⟩
theorem pE_rf : pE E E := ⟨fun _ _ _ _ _ _ _ _ _ _ => rfl, fun _ _ => rfl, fun _ _ => rfl, fun _ _ _ _ _ => rfl⟩
theorem pF_t (h : tF C C') : pF C C' := ⟨h.1, fun x _ h2 _ _ _ _ => h.2 x h2⟩
theorem pE_t (h : tE E E') : pE E E' := ⟨fun j h1 h2 h3 h4 h5 _ _ _ _ => h.1 j h1 h2 h3 h4 h5, fun j _ => by rw [h.2 614 (by omega)], fun j _ => by rw [h.2 615 (by omega)], fun x h1 _ _ _ => h.2 x h1⟩
theorem pF_2 {i v : Int} : pF C (cm_up C 2 i v) := ⟨rfl, fun x h1 _ _ _ _ _ => up_row h1⟩
theorem txR_f (h : txR C E len) (a : pF C C') (b : pE E E') : txR C' E' len := by
  obtain ⟨h1, h2, h3, h4⟩ := h
  refine ⟨by rw [a.1]; exact h1, by rw [b.1 11 (by omega) (by omega) (by omega) (by omega) (by omega) (by omega) (by omega) (by omega) (by omega)]; exact h2, h3, ?_⟩
  rw [a.2 1 (by omega) (by omega) (by omega) (by omega) (by omega) (by omega), b.2.2.2 621 (by omega) (by omega) (by omega) (by omega)]
  exact h4
/-- what a fault leaves -/
abbrev fC (C : Nat → Int → Int) (k : Int) : Nat → Int → Int := cm_up (cm_up C 2 1 k) 2 2 (C 3 3)
abbrev fE (E : Nat → Int → Int) (k : Int) : Nat → Int → Int := cm_up (cm_up E 613 16 k) 613 17 (E 613 14)
theorem pF_c {k : Int} : pF C (fC C k) := pF_tr pF_2 pF_2
theorem pE_c {k : Int} : pE E (fE E k) := ⟨fun j _ _ _ _ _ h6 h7 _ _ => by
    show (cm_up (cm_up E 613 16 k) 613 17 (E 613 14)) 613 j = _
    rw [up_same, u1_ne h7, up_same, u1_ne h6], fun _ _ => rfl, fun _ _ => rfl, fun x h1 _ _ _ => by
    show (cm_up (cm_up E 613 16 k) 613 17 (E 613 14)) x = _
    rw [up_row h1, up_row h1]⟩
theorem pFt_c {k : Int} (hs : pS C E len) (hk : k ≠ 0) : pFt (fC C k) (fE E k) := ⟨hk, rfl, hs.2.2.2.1.symm⟩
theorem ev_fit (hs : pS C E len) (ho : pOk C E) (lo hi : Int) (X Y : cm_X) : (C 3 4 = 2 ∧ (lo ≤ C 3 5 ∧ C 3 5 ≤ hi) ∧ C 3 5 = E 613 13 ∧ cm_x 55 0 [some (.inr (.inr 2)), some (.inl (lo)), some (.inl (hi))] [] (cm_hp C X) = some (.inl (some (.inl (1))), cm_hp C X) ∧ cm_x 174 0 [some (.inr (.inr 613)), some (.inl (lo)), some (.inl (hi))] [] (cm_hp E Y) = some (.inl (some (.inl (C 3 5))), cm_hp E Y)) ∨ ∃ k, (k = 1 ∧ C 3 4 ≠ 2 ∨ k = 2 ∧ C 3 4 = 2) ∧ cm_x 55 0 [some (.inr (.inr 2)), some (.inl (lo)), some (.inl (hi))] [] (cm_hp C X) = some (.inl (some (.inl (0))), cm_hp (fC C k) X) ∧ cm_x 174 0 [some (.inr (.inr 613)), some (.inl (lo)), some (.inl (hi))] [] (cm_hp E Y) = some (.inl (some (.inl lo)), cm_hp (fE E k) Y) := by
  obtain ⟨hx, t1, t2, t3, t4, t5, t6, t7, t8⟩ := hs
  obtain ⟨o1, o2⟩ := ho
  have hl := hx.2.2.1
  have fq : ∀ k : Int, k ≠ 0 → ¬ (fE E k) 613 16 = 0 := fun k hk => hk
  have fail : ∀ k : Int, cm_x 172 0 [some (.inr (.inr 613)), some (.inl (k))] [] (cm_hp E Y) = some (.inl none, cm_hp (fE E k) Y) := fun k => by rw [sg_X9_wrong_0, if_pos o2]
  by_cases h2 : C 3 4 = 2
  · obtain ⟨d1, d2⟩ := t7 h2
    have w : cm_wr (E 613 15 - E 613 14) = C 3 6 := by rw [t2, ← t1, ← t3, cm_wr_id (by omega) (by omega), d1]
    have mfail : cm_aft 174 56 59 [some (.inr (.inr 613)), some (.inl (lo)), some (.inl (hi))] [] (cm_x 172 0 [some (.inr (.inr 613)), some (.inl (2))] [] (cm_hp E Y)) = some (.inl (some (.inl lo)), cm_hp (fE E 2) Y) := by
      rw [fail, aft_n, sg_X9_numberNow_59, if_neg (fq 2 (by omega))]
    have cfail : cm_aft 55 53 56 [some (.inr (.inr 2)), some (.inl (lo)), some (.inl (hi))] [] (cm_x 51 0 [some (.inr (.inr 2)), some (.inl (2))] [] (cm_hp C X)) = some (.inl (some (.inl (0))), cm_hp (fC C 2) X) := by
      rw [sg_X5_fail_0, aft_n, sg_X5_isFit_56]
    rw [sg_X5_isFit_0, if_pos h2, sg_X9_numberNow_0, if_pos o2, if_pos (t4.symm.trans h2), w]
    by_cases h4 : 4 < C 3 6
    · rw [if_pos h4, if_pos h4]
      exact Or.inr ⟨2, Or.inr ⟨rfl, h2⟩, cfail, mfail⟩
    · obtain ⟨d3, d4⟩ := d2 (by omega)
      rw [if_neg h4, if_neg h4, ← d3]
      by_cases h5 : C 3 5 < lo
      · rw [if_pos h5, if_pos h5]
        exact Or.inr ⟨2, Or.inr ⟨rfl, h2⟩, cfail, mfail⟩
      · rw [if_neg h5, if_neg h5]
        by_cases h6 : hi < C 3 5
        · rw [if_pos h6, if_pos h6]
          exact Or.inr ⟨2, Or.inr ⟨rfl, h2⟩, cfail, mfail⟩
        · rw [if_neg h6, if_neg h6]
          refine Or.inl ⟨h2, ⟨by omega, by omega⟩, rfl, rfl, ?_⟩
          rw [sg_X9_numberNow_59, if_pos o2, ← d3]
  · refine Or.inr ⟨1, Or.inl ⟨rfl, h2⟩, ?_, ?_⟩
    · rw [sg_X5_isFit_0, if_neg h2, sg_X5_fail_0, aft_n, sg_X5_isFit_16]
    · rw [sg_X9_numberNow_0, if_pos o2, if_neg (fun z => h2 (t4.trans z)), fail, aft_n, sg_X9_numberNow_22, sg_X9_numberNow_59, if_neg (fq 1 (by omega))]
/-- a number is read -/
theorem ev_rn (hs : pS C E len) (ho : pOk C E) (lo hi : Int) (X Y : cm_X) : (∃ v C' E', (lo ≤ v ∧ v ≤ hi) ∧ cm_x 54 0 [some (.inr (.inr 2)), some (.inl (lo)), some (.inl (hi)), none] [] (cm_hp C X) = some (.inl (some (.inl (v))), cm_hp C' X) ∧ cm_x 175 0 [some (.inr (.inr 613)), some (.inl (lo)), some (.inl (hi)), none] [] (cm_hp E Y) = some (.inl (some (.inl v)), cm_hp E' Y) ∧ pS C' E' len ∧ C 3 3 < C' 3 3 ∧ tF C C' ∧ tE E E') ∨ ∃ k, k ≠ 0 ∧ cm_x 54 0 [some (.inr (.inr 2)), some (.inl (lo)), some (.inl (hi)), none] [] (cm_hp C X) = some (.inl (some (.inl (0))), cm_hp (fC C k) X) ∧ cm_x 175 0 [some (.inr (.inr 613)), some (.inl (lo)), some (.inl (hi)), none] [] (cm_hp E Y) = some (.inl (some (.inl lo)), cm_hp (fE E k) Y) := by
  have ho' := ho
  obtain ⟨o1, o2⟩ := ho
  rcases ev_fit hs ho' lo hi X Y with ⟨a1, a2, a3, a4, a5⟩ | ⟨k, a1, a2, a3⟩
  · have hs' := hs
    obtain ⟨hx, t1, t2, t3, t4, t5, t6, t7, t8⟩ := hs
    obtain ⟨C', E', b1, b2, b3, b4, b5, b6⟩ := ev_tok hx t1 (by omega) (by omega) X Y
    refine Or.inl ⟨C 3 5, C', E', a2, ?_, ?_, ⟨txR_f hx (pF_t b5) (pE_t b6), b3⟩, ?_, b5, b6⟩
    · rw [sg_X5_readNumber_0, if_pos o1, a4, aft_v, sg_X5_readNumber_13, if_neg (by omega), b1, aft_n, sg_X5_readNumber_33]
    · rw [sg_X9_readNumber_0, a5, aft_v, sg_X9_readNumber_6, if_pos o2, b2, aft_n, sg_X9_readNumber_18]
    · have := t6 (by omega)
      omega
  · have hk : k ≠ 0 := by omega
    have q : ¬ (fE E k) 613 16 = 0 := hk
    refine Or.inr ⟨k, hk, ?_, ?_⟩
    · rw [sg_X5_readNumber_0, if_pos o1, a2, aft_v, sg_X5_readNumber_13, if_pos rfl]
    · rw [sg_X9_readNumber_0, a3, aft_v, sg_X9_readNumber_6, if_neg q, sg_X9_readNumber_18]
/-- behind a fault nothing is read -/
theorem ev_rnF (h : C 2 1 ≠ 0) (lo hi : Int) : cm_x 54 0 [some (.inr (.inr 2)), some (.inl (lo)), some (.inl (hi)), none] [] (cm_hp C X) = some (.inl (some (.inl (0))), cm_hp C X) := by rw [sg_X5_readNumber_0, if_neg h]
theorem ev_mrF (h : E 613 16 ≠ 0) (lo hi : Int) : cm_x 175 0 [some (.inr (.inr 613)), some (.inl (lo)), some (.inl (hi)), none] [] (cm_hp E X) = some (.inl (some (.inl (lo))), cm_hp E X) := by
  rw [sg_X9_readNumber_0, sg_X9_numberNow_0, if_neg h, aft_v, sg_X9_readNumber_6, if_neg h, sg_X9_readNumber_18]
/-- words -/
def wD4 (C : Nat → Int → Int) (a b c d : Int) : Prop := C 3 4 = 1 ∧ C 3 2 - C 3 3 = 4 ∧ C 1 (C 3 3) = a ∧ C 1 (C 3 3 + 1) = b ∧ C 1 (C 3 3 + 2) = c ∧ C 1 (C 3 3 + 3) = d
def wD3 (C : Nat → Int → Int) (a b c : Int) : Prop := C 3 4 = 1 ∧ C 3 2 - C 3 3 = 3 ∧ C 1 (C 3 3) = a ∧ C 1 (C 3 3 + 1) = b ∧ C 1 (C 3 3 + 2) = c
theorem ev_w0 (hs : pS C E len) (X : cm_X) : cm_x 99 0 [some (.inr (.inr 3)), some (.inr (.inr 200000)), none] [] (cm_hp C X) = some (.inl (some (.inl (tv (wD4 C 100 105 115 99)))), cm_hp C X) := by
  obtain ⟨hx, t1, t2, t3, t4, t5, t6, t7, t8⟩ := hs
  have hl := hx.2.2.1
  have w : cm_wr (C 3 2 - C 3 3) = C 3 2 - C 3 3 := cm_wr_id (by omega) (by omega)
  rw [sg_X7_isWord_0_0, w]
  by_cases h1 : C 3 4 = 1
  · rw [if_pos h1]
    by_cases h2 : C 3 2 - C 3 3 = 4
    · rw [if_pos h2]
      rw [sg_X7_isWord_0_28, if_pos (by omega), cm_wr_id (x := C 3 3 + 0) (by omega) (by omega), ck_t (by omega), ck_t (by omega)]
      rw [Int.add_zero]
      by_cases k0 : C 1 (C 3 3) = 100
      case neg => rw [if_neg (show ¬ C 1 (C 3 3) = List.getD [100, 105, 115, 99] (Int.toNat 0) 0 from k0), tv_f (fun z => k0 z.2.2.1)]
      rw [if_pos (show C 1 (C 3 3) = List.getD [100, 105, 115, 99] (Int.toNat 0) 0 from k0), show cm_wr (0 + 1) = 1 from rfl]
      rw [sg_X7_isWord_0_28, if_pos (by omega), cm_wr_id (x := C 3 3 + 1) (by omega) (by omega), ck_t (by omega), ck_t (by omega)]
      by_cases k1 : C 1 (C 3 3 + 1) = 105
      case neg => rw [if_neg (show ¬ C 1 (C 3 3 + 1) = List.getD [100, 105, 115, 99] (Int.toNat 1) 0 from k1), tv_f (fun z => k1 z.2.2.2.1)]
      rw [if_pos (show C 1 (C 3 3 + 1) = List.getD [100, 105, 115, 99] (Int.toNat 1) 0 from k1), show cm_wr (1 + 1) = 2 from rfl]
      rw [sg_X7_isWord_0_28, if_pos (by omega), cm_wr_id (x := C 3 3 + 2) (by omega) (by omega), ck_t (by omega), ck_t (by omega)]
      by_cases k2 : C 1 (C 3 3 + 2) = 115
      case neg => rw [if_neg (show ¬ C 1 (C 3 3 + 2) = List.getD [100, 105, 115, 99] (Int.toNat 2) 0 from k2), tv_f (fun z => k2 z.2.2.2.2.1)]
      rw [if_pos (show C 1 (C 3 3 + 2) = List.getD [100, 105, 115, 99] (Int.toNat 2) 0 from k2), show cm_wr (2 + 1) = 3 from rfl]
      rw [sg_X7_isWord_0_28, if_pos (by omega), cm_wr_id (x := C 3 3 + 3) (by omega) (by omega), ck_t (by omega), ck_t (by omega)]
      by_cases k3 : C 1 (C 3 3 + 3) = 99
      case neg => rw [if_neg (show ¬ C 1 (C 3 3 + 3) = List.getD [100, 105, 115, 99] (Int.toNat 3) 0 from k3), tv_f (fun z => k3 z.2.2.2.2.2)]
      rw [if_pos (show C 1 (C 3 3 + 3) = List.getD [100, 105, 115, 99] (Int.toNat 3) 0 from k3), show cm_wr (3 + 1) = 4 from rfl]
      rw [sg_X7_isWord_0_28, if_neg (by omega), tv_t ⟨h1, h2, k0, k1, k2, k3⟩]
    · rw [if_neg h2, tv_f (fun z => h2 z.2.1)]
  · rw [if_neg h1, tv_f (fun z => h1 z.1)]
theorem ev_m0 (hs : pS C E len) (ho : pOk C E) (Y : cm_X) : cm_x 173 0 [some (.inr (.inr 613)), some (.inr (.inr 200000)), none, none] [] (cm_hp E Y) = some (.inl (some (.inl (tv (wD4 C 100 105 115 99)))), cm_hp E Y) := by
  obtain ⟨hx, t1, t2, t3, t4, t5, t6, t7, t8⟩ := hs
  have hl := hx.2.2.1
  have hT := hx.2.2.2
  have w : cm_wr (E 613 15 - E 613 14) = C 3 2 - C 3 3 := by rw [t2, ← t1, ← t3, cm_wr_id (by omega) (by omega)]
  have no : ∀ j, cm_x 173 39 [some (.inr (.inr 613)), some (.inr (.inr 200000)), some (.inl (0)), some (.inl (j))] [] (cm_hp E Y) = some (.inl (some (.inl 0)), cm_hp E Y) := fun j => by
    rw [sg_X9_is_0_39, if_pos rfl, ck_t (by omega)]
  rw [sg_X9_is_0_0, if_pos ho.2, w, ← t4]
  by_cases h1 : C 3 4 = 1
  · rw [if_pos h1]
    by_cases h2 : C 3 2 - C 3 3 = 4
    · rw [if_pos h2.symm]
      rw [sg_X9_is_0_39, if_neg (by omega), if_pos (by omega), ck_t (by omega), ← t3, cm_wr_id (x := C 3 3 + 0) (by omega) (by omega), ck_t (by omega), (hT (C 3 3 + 0) (by omega) (by omega)).1]
      rw [Int.add_zero]
      by_cases k0 : C 1 (C 3 3) = 100
      case neg => rw [if_neg (show ¬ List.getD [100, 105, 115, 99] (Int.toNat 0) 0 = C 1 (C 3 3) from fun z => k0 z.symm), no, tv_f (fun z => k0 z.2.2.1)]
      rw [if_pos (show List.getD [100, 105, 115, 99] (Int.toNat 0) 0 = C 1 (C 3 3) from k0.symm), show cm_wr (0 + 1) = 1 from rfl]
      rw [sg_X9_is_0_39, if_neg (by omega), if_pos (by omega), ck_t (by omega), ← t3, cm_wr_id (x := C 3 3 + 1) (by omega) (by omega), ck_t (by omega), (hT (C 3 3 + 1) (by omega) (by omega)).1]
      by_cases k1 : C 1 (C 3 3 + 1) = 105
      case neg => rw [if_neg (show ¬ List.getD [100, 105, 115, 99] (Int.toNat 1) 0 = C 1 (C 3 3 + 1) from fun z => k1 z.symm), no, tv_f (fun z => k1 z.2.2.2.1)]
      rw [if_pos (show List.getD [100, 105, 115, 99] (Int.toNat 1) 0 = C 1 (C 3 3 + 1) from k1.symm), show cm_wr (1 + 1) = 2 from rfl]
      rw [sg_X9_is_0_39, if_neg (by omega), if_pos (by omega), ck_t (by omega), ← t3, cm_wr_id (x := C 3 3 + 2) (by omega) (by omega), ck_t (by omega), (hT (C 3 3 + 2) (by omega) (by omega)).1]
      by_cases k2 : C 1 (C 3 3 + 2) = 115
      case neg => rw [if_neg (show ¬ List.getD [100, 105, 115, 99] (Int.toNat 2) 0 = C 1 (C 3 3 + 2) from fun z => k2 z.symm), no, tv_f (fun z => k2 z.2.2.2.2.1)]
      rw [if_pos (show List.getD [100, 105, 115, 99] (Int.toNat 2) 0 = C 1 (C 3 3 + 2) from k2.symm), show cm_wr (2 + 1) = 3 from rfl]
      rw [sg_X9_is_0_39, if_neg (by omega), if_pos (by omega), ck_t (by omega), ← t3, cm_wr_id (x := C 3 3 + 3) (by omega) (by omega), ck_t (by omega), (hT (C 3 3 + 3) (by omega) (by omega)).1]
      by_cases k3 : C 1 (C 3 3 + 3) = 99
      case neg => rw [if_neg (show ¬ List.getD [100, 105, 115, 99] (Int.toNat 3) 0 = C 1 (C 3 3 + 3) from fun z => k3 z.symm), no, tv_f (fun z => k3 z.2.2.2.2.2)]
      rw [if_pos (show List.getD [100, 105, 115, 99] (Int.toNat 3) 0 = C 1 (C 3 3 + 3) from k3.symm), show cm_wr (3 + 1) = 4 from rfl]
      rw [sg_X9_is_0_39, if_neg (by omega), if_neg (by omega), ck_t (by omega), tv_t ⟨h1, h2, k0, k1, k2, k3⟩]
    · rw [if_neg (fun z => h2 z.symm), no, tv_f (fun z => h2 z.2.1)]
  · rw [if_neg h1, no, tv_f (fun z => h1 z.1)]
theorem ev_w1 (hs : pS C E len) (X : cm_X) : cm_x 99 0 [some (.inr (.inr 3)), some (.inr (.inr 200001)), none] [] (cm_hp C X) = some (.inl (some (.inl (tv (wD3 C 98 97 100)))), cm_hp C X) := by
  obtain ⟨hx, t1, t2, t3, t4, t5, t6, t7, t8⟩ := hs
  have hl := hx.2.2.1
  have w : cm_wr (C 3 2 - C 3 3) = C 3 2 - C 3 3 := cm_wr_id (by omega) (by omega)
  rw [sg_X7_isWord_1_0, w]
  by_cases h1 : C 3 4 = 1
  · rw [if_pos h1]
    by_cases h2 : C 3 2 - C 3 3 = 3
    · rw [if_pos h2]
      rw [sg_X7_isWord_1_28, if_pos (by omega), cm_wr_id (x := C 3 3 + 0) (by omega) (by omega), ck_t (by omega), ck_t (by omega)]
      rw [Int.add_zero]
      by_cases k0 : C 1 (C 3 3) = 98
      case neg => rw [if_neg (show ¬ C 1 (C 3 3) = List.getD [98, 97, 100] (Int.toNat 0) 0 from k0), tv_f (fun z => k0 z.2.2.1)]
      rw [if_pos (show C 1 (C 3 3) = List.getD [98, 97, 100] (Int.toNat 0) 0 from k0), show cm_wr (0 + 1) = 1 from rfl]
      rw [sg_X7_isWord_1_28, if_pos (by omega), cm_wr_id (x := C 3 3 + 1) (by omega) (by omega), ck_t (by omega), ck_t (by omega)]
      by_cases k1 : C 1 (C 3 3 + 1) = 97
      case neg => rw [if_neg (show ¬ C 1 (C 3 3 + 1) = List.getD [98, 97, 100] (Int.toNat 1) 0 from k1), tv_f (fun z => k1 z.2.2.2.1)]
      rw [if_pos (show C 1 (C 3 3 + 1) = List.getD [98, 97, 100] (Int.toNat 1) 0 from k1), show cm_wr (1 + 1) = 2 from rfl]
      rw [sg_X7_isWord_1_28, if_pos (by omega), cm_wr_id (x := C 3 3 + 2) (by omega) (by omega), ck_t (by omega), ck_t (by omega)]
      by_cases k2 : C 1 (C 3 3 + 2) = 100
      case neg => rw [if_neg (show ¬ C 1 (C 3 3 + 2) = List.getD [98, 97, 100] (Int.toNat 2) 0 from k2), tv_f (fun z => k2 z.2.2.2.2)]
      rw [if_pos (show C 1 (C 3 3 + 2) = List.getD [98, 97, 100] (Int.toNat 2) 0 from k2), show cm_wr (2 + 1) = 3 from rfl]
      rw [sg_X7_isWord_1_28, if_neg (by omega), tv_t ⟨h1, h2, k0, k1, k2⟩]
    · rw [if_neg h2, tv_f (fun z => h2 z.2.1)]
  · rw [if_neg h1, tv_f (fun z => h1 z.1)]
theorem ev_m1 (hs : pS C E len) (ho : pOk C E) (Y : cm_X) : cm_x 173 0 [some (.inr (.inr 613)), some (.inr (.inr 200001)), none, none] [] (cm_hp E Y) = some (.inl (some (.inl (tv (wD3 C 98 97 100)))), cm_hp E Y) := by
  obtain ⟨hx, t1, t2, t3, t4, t5, t6, t7, t8⟩ := hs
  have hl := hx.2.2.1
  have hT := hx.2.2.2
  have w : cm_wr (E 613 15 - E 613 14) = C 3 2 - C 3 3 := by rw [t2, ← t1, ← t3, cm_wr_id (by omega) (by omega)]
  have no : ∀ j, cm_x 173 39 [some (.inr (.inr 613)), some (.inr (.inr 200001)), some (.inl (0)), some (.inl (j))] [] (cm_hp E Y) = some (.inl (some (.inl 0)), cm_hp E Y) := fun j => by
    rw [sg_X9_is_1_39, if_pos rfl, ck_t (by omega)]
  rw [sg_X9_is_1_0, if_pos ho.2, w, ← t4]
  by_cases h1 : C 3 4 = 1
  · rw [if_pos h1]
    by_cases h2 : C 3 2 - C 3 3 = 3
    · rw [if_pos h2.symm]
      rw [sg_X9_is_1_39, if_neg (by omega), if_pos (by omega), ck_t (by omega), ← t3, cm_wr_id (x := C 3 3 + 0) (by omega) (by omega), ck_t (by omega), (hT (C 3 3 + 0) (by omega) (by omega)).1]
      rw [Int.add_zero]
      by_cases k0 : C 1 (C 3 3) = 98
      case neg => rw [if_neg (show ¬ List.getD [98, 97, 100] (Int.toNat 0) 0 = C 1 (C 3 3) from fun z => k0 z.symm), no, tv_f (fun z => k0 z.2.2.1)]
      rw [if_pos (show List.getD [98, 97, 100] (Int.toNat 0) 0 = C 1 (C 3 3) from k0.symm), show cm_wr (0 + 1) = 1 from rfl]
      rw [sg_X9_is_1_39, if_neg (by omega), if_pos (by omega), ck_t (by omega), ← t3, cm_wr_id (x := C 3 3 + 1) (by omega) (by omega), ck_t (by omega), (hT (C 3 3 + 1) (by omega) (by omega)).1]
      by_cases k1 : C 1 (C 3 3 + 1) = 97
      case neg => rw [if_neg (show ¬ List.getD [98, 97, 100] (Int.toNat 1) 0 = C 1 (C 3 3 + 1) from fun z => k1 z.symm), no, tv_f (fun z => k1 z.2.2.2.1)]
      rw [if_pos (show List.getD [98, 97, 100] (Int.toNat 1) 0 = C 1 (C 3 3 + 1) from k1.symm), show cm_wr (1 + 1) = 2 from rfl]
      rw [sg_X9_is_1_39, if_neg (by omega), if_pos (by omega), ck_t (by omega), ← t3, cm_wr_id (x := C 3 3 + 2) (by omega) (by omega), ck_t (by omega), (hT (C 3 3 + 2) (by omega) (by omega)).1]
      by_cases k2 : C 1 (C 3 3 + 2) = 100
      case neg => rw [if_neg (show ¬ List.getD [98, 97, 100] (Int.toNat 2) 0 = C 1 (C 3 3 + 2) from fun z => k2 z.symm), no, tv_f (fun z => k2 z.2.2.2.2)]
      rw [if_pos (show List.getD [98, 97, 100] (Int.toNat 2) 0 = C 1 (C 3 3 + 2) from k2.symm), show cm_wr (2 + 1) = 3 from rfl]
      rw [sg_X9_is_1_39, if_neg (by omega), if_neg (by omega), ck_t (by omega), tv_t ⟨h1, h2, k0, k1, k2⟩]
    · rw [if_neg (fun z => h2 z.symm), no, tv_f (fun z => h2 z.2.1)]
  · rw [if_neg h1, no, tv_f (fun z => h1 z.1)]
theorem ev_w2 (hs : pS C E len) (X : cm_X) : cm_x 99 0 [some (.inr (.inr 3)), some (.inr (.inr 200002)), none] [] (cm_hp C X) = some (.inl (some (.inl (tv (wD4 C 102 105 108 101)))), cm_hp C X) := by
  obtain ⟨hx, t1, t2, t3, t4, t5, t6, t7, t8⟩ := hs
  have hl := hx.2.2.1
  have w : cm_wr (C 3 2 - C 3 3) = C 3 2 - C 3 3 := cm_wr_id (by omega) (by omega)
  rw [sg_X7_isWord_2_0, w]
  by_cases h1 : C 3 4 = 1
  · rw [if_pos h1]
    by_cases h2 : C 3 2 - C 3 3 = 4
    · rw [if_pos h2]
      rw [sg_X7_isWord_2_28, if_pos (by omega), cm_wr_id (x := C 3 3 + 0) (by omega) (by omega), ck_t (by omega), ck_t (by omega)]
      rw [Int.add_zero]
      by_cases k0 : C 1 (C 3 3) = 102
      case neg => rw [if_neg (show ¬ C 1 (C 3 3) = List.getD [102, 105, 108, 101] (Int.toNat 0) 0 from k0), tv_f (fun z => k0 z.2.2.1)]
      rw [if_pos (show C 1 (C 3 3) = List.getD [102, 105, 108, 101] (Int.toNat 0) 0 from k0), show cm_wr (0 + 1) = 1 from rfl]
      rw [sg_X7_isWord_2_28, if_pos (by omega), cm_wr_id (x := C 3 3 + 1) (by omega) (by omega), ck_t (by omega), ck_t (by omega)]
      by_cases k1 : C 1 (C 3 3 + 1) = 105
      case neg => rw [if_neg (show ¬ C 1 (C 3 3 + 1) = List.getD [102, 105, 108, 101] (Int.toNat 1) 0 from k1), tv_f (fun z => k1 z.2.2.2.1)]
      rw [if_pos (show C 1 (C 3 3 + 1) = List.getD [102, 105, 108, 101] (Int.toNat 1) 0 from k1), show cm_wr (1 + 1) = 2 from rfl]
      rw [sg_X7_isWord_2_28, if_pos (by omega), cm_wr_id (x := C 3 3 + 2) (by omega) (by omega), ck_t (by omega), ck_t (by omega)]
      by_cases k2 : C 1 (C 3 3 + 2) = 108
      case neg => rw [if_neg (show ¬ C 1 (C 3 3 + 2) = List.getD [102, 105, 108, 101] (Int.toNat 2) 0 from k2), tv_f (fun z => k2 z.2.2.2.2.1)]
      rw [if_pos (show C 1 (C 3 3 + 2) = List.getD [102, 105, 108, 101] (Int.toNat 2) 0 from k2), show cm_wr (2 + 1) = 3 from rfl]
      rw [sg_X7_isWord_2_28, if_pos (by omega), cm_wr_id (x := C 3 3 + 3) (by omega) (by omega), ck_t (by omega), ck_t (by omega)]
      by_cases k3 : C 1 (C 3 3 + 3) = 101
      case neg => rw [if_neg (show ¬ C 1 (C 3 3 + 3) = List.getD [102, 105, 108, 101] (Int.toNat 3) 0 from k3), tv_f (fun z => k3 z.2.2.2.2.2)]
      rw [if_pos (show C 1 (C 3 3 + 3) = List.getD [102, 105, 108, 101] (Int.toNat 3) 0 from k3), show cm_wr (3 + 1) = 4 from rfl]
      rw [sg_X7_isWord_2_28, if_neg (by omega), tv_t ⟨h1, h2, k0, k1, k2, k3⟩]
    · rw [if_neg h2, tv_f (fun z => h2 z.2.1)]
  · rw [if_neg h1, tv_f (fun z => h1 z.1)]
theorem ev_m2 (hs : pS C E len) (ho : pOk C E) (Y : cm_X) : cm_x 173 0 [some (.inr (.inr 613)), some (.inr (.inr 200002)), none, none] [] (cm_hp E Y) = some (.inl (some (.inl (tv (wD4 C 102 105 108 101)))), cm_hp E Y) := by
  obtain ⟨hx, t1, t2, t3, t4, t5, t6, t7, t8⟩ := hs
  have hl := hx.2.2.1
  have hT := hx.2.2.2
  have w : cm_wr (E 613 15 - E 613 14) = C 3 2 - C 3 3 := by rw [t2, ← t1, ← t3, cm_wr_id (by omega) (by omega)]
  have no : ∀ j, cm_x 173 39 [some (.inr (.inr 613)), some (.inr (.inr 200002)), some (.inl (0)), some (.inl (j))] [] (cm_hp E Y) = some (.inl (some (.inl 0)), cm_hp E Y) := fun j => by
    rw [sg_X9_is_2_39, if_pos rfl, ck_t (by omega)]
  rw [sg_X9_is_2_0, if_pos ho.2, w, ← t4]
  by_cases h1 : C 3 4 = 1
  · rw [if_pos h1]
    by_cases h2 : C 3 2 - C 3 3 = 4
    · rw [if_pos h2.symm]
      rw [sg_X9_is_2_39, if_neg (by omega), if_pos (by omega), ck_t (by omega), ← t3, cm_wr_id (x := C 3 3 + 0) (by omega) (by omega), ck_t (by omega), (hT (C 3 3 + 0) (by omega) (by omega)).1]
      rw [Int.add_zero]
      by_cases k0 : C 1 (C 3 3) = 102
      case neg => rw [if_neg (show ¬ List.getD [102, 105, 108, 101] (Int.toNat 0) 0 = C 1 (C 3 3) from fun z => k0 z.symm), no, tv_f (fun z => k0 z.2.2.1)]
      rw [if_pos (show List.getD [102, 105, 108, 101] (Int.toNat 0) 0 = C 1 (C 3 3) from k0.symm), show cm_wr (0 + 1) = 1 from rfl]
      rw [sg_X9_is_2_39, if_neg (by omega), if_pos (by omega), ck_t (by omega), ← t3, cm_wr_id (x := C 3 3 + 1) (by omega) (by omega), ck_t (by omega), (hT (C 3 3 + 1) (by omega) (by omega)).1]
      by_cases k1 : C 1 (C 3 3 + 1) = 105
      case neg => rw [if_neg (show ¬ List.getD [102, 105, 108, 101] (Int.toNat 1) 0 = C 1 (C 3 3 + 1) from fun z => k1 z.symm), no, tv_f (fun z => k1 z.2.2.2.1)]
      rw [if_pos (show List.getD [102, 105, 108, 101] (Int.toNat 1) 0 = C 1 (C 3 3 + 1) from k1.symm), show cm_wr (1 + 1) = 2 from rfl]
      rw [sg_X9_is_2_39, if_neg (by omega), if_pos (by omega), ck_t (by omega), ← t3, cm_wr_id (x := C 3 3 + 2) (by omega) (by omega), ck_t (by omega), (hT (C 3 3 + 2) (by omega) (by omega)).1]
      by_cases k2 : C 1 (C 3 3 + 2) = 108
      case neg => rw [if_neg (show ¬ List.getD [102, 105, 108, 101] (Int.toNat 2) 0 = C 1 (C 3 3 + 2) from fun z => k2 z.symm), no, tv_f (fun z => k2 z.2.2.2.2.1)]
      rw [if_pos (show List.getD [102, 105, 108, 101] (Int.toNat 2) 0 = C 1 (C 3 3 + 2) from k2.symm), show cm_wr (2 + 1) = 3 from rfl]
      rw [sg_X9_is_2_39, if_neg (by omega), if_pos (by omega), ck_t (by omega), ← t3, cm_wr_id (x := C 3 3 + 3) (by omega) (by omega), ck_t (by omega), (hT (C 3 3 + 3) (by omega) (by omega)).1]
      by_cases k3 : C 1 (C 3 3 + 3) = 101
      case neg => rw [if_neg (show ¬ List.getD [102, 105, 108, 101] (Int.toNat 3) 0 = C 1 (C 3 3 + 3) from fun z => k3 z.symm), no, tv_f (fun z => k3 z.2.2.2.2.2)]
      rw [if_pos (show List.getD [102, 105, 108, 101] (Int.toNat 3) 0 = C 1 (C 3 3 + 3) from k3.symm), show cm_wr (3 + 1) = 4 from rfl]
      rw [sg_X9_is_2_39, if_neg (by omega), if_neg (by omega), ck_t (by omega), tv_t ⟨h1, h2, k0, k1, k2, k3⟩]
    · rw [if_neg (fun z => h2 z.symm), no, tv_f (fun z => h2 z.2.1)]
  · rw [if_neg h1, no, tv_f (fun z => h1 z.1)]
