/-! reading: files: both -/
variable {C C' D E E' F : Nat → Int → Int} {X Y : cm_X} {T : Int → Int} {len : Int}
def tldF (C : Nat → Int → Int) (n : Int) : Prop := ∃ i, 0 ≤ i ∧ i < C 2 13 ∧ C 6 i = n
theorem ev_told (f0 : 0 ≤ C 2 13) (f1 : C 2 13 ≤ 12) (n : Int) : cm_x 59 0 [some (.inr (.inr 2)), some (.inl (n)), none] [] (cm_hp C X) = some (.inl (some (.inl (tv (tldF C n)))), cm_hp C X) := by
  have key : ∀ (k : Nat) (j : Int), C 2 13 - j ≤ k → 0 ≤ j → j ≤ C 2 13 → cm_x 59 2 [some (.inr (.inr 2)), some (.inl (n)), some (.inl (j))] [] (cm_hp C X) = some (.inl (some (.inl (tv (∃ i, j ≤ i ∧ i < C 2 13 ∧ C 6 i = n)))), cm_hp C X) := by
    intro k
    induction k with
    | zero => intro j h1 h2 h3; rw [sg_X5_isTold_2, if_neg (by omega), tv_f (fun ⟨i, a, b, _⟩ => by omega)]
    | succ k ih =>
      intro j h1 h2 h3
      by_cases hj : j < C 2 13
      · rw [sg_X5_isTold_2, if_pos hj, ck_t (by omega)]
        by_cases hq : C 6 j = n
        · rw [if_pos hq, tv_t ⟨j, by omega, hj, hq⟩]
        · rw [if_neg hq, cm_wr_id (x := j + 1) (by omega) (by omega), ih (j + 1) (by omega) (by omega) (by omega)]
          rw [tv_c (show (∃ i, j + 1 ≤ i ∧ i < C 2 13 ∧ C 6 i = n) ↔ ∃ i, j ≤ i ∧ i < C 2 13 ∧ C 6 i = n from ⟨fun ⟨i, a, b, c⟩ => ⟨i, by omega, b, c⟩, fun ⟨i, a, b, c⟩ => ⟨i, by
            by_cases hi : i = j
            · rw [hi] at c; exact absurd c hq
            · omega, b, c⟩⟩)]
      · rw [sg_X5_isTold_2, if_neg hj, tv_f (fun ⟨i, a, b, _⟩ => by omega)]
  rw [sg_X5_isTold_0, key 12 0 (by omega) (by omega) (by omega)]
  rfl
/-- twelve files: every name is told -/
theorem fl_12 (h : flR C E) (h12 : C 2 13 = 12) {n : Int} (n0 : 0 ≤ n) (n1 : n < 12) : tldF C n := by
  by_cases ht : tldF C n
  · exact ht
  · exfalso
    obtain ⟨-, -, f3, -⟩ := h
    refine pig 12 (fun i => if i < 12 then (C 6 (i : Int)).toNat else n.toNat) (fun i hi => ?_) (fun i j hi hj he => ?_)
    · by_cases h1 : i < 12
      · have := (f3 i (by omega) (by omega)).1
        rw [if_pos h1]; omega
      · rw [if_neg h1]; omega
    · by_cases h1 : i < 12
      · have a1 := f3 i (by omega) (by omega)
        rw [if_pos h1] at he
        by_cases h2 : j < 12
        · have a2 := f3 j (by omega) (by omega)
          rw [if_pos h2] at he
          have e : C 6 (i : Int) = C 6 (j : Int) := by
            have := a1.1; have := a2.1; omega
          have e1 := a1.2.1
          rw [e, a2.2.1] at e1
          omega
        · rw [if_neg h2] at he
          exact absurd ⟨(i : Int), by omega, by omega, by have := a1.1; omega⟩ ht
      · rw [if_neg h1] at he
        by_cases h2 : j < 12
        · have a2 := f3 j (by omega) (by omega)
          rw [if_pos h2] at he
          exact absurd ⟨(j : Int), by omega, by omega, by have := a2.1; omega⟩ ht
        · omega
theorem fl_tld (h : flR C E) {n : Int} (n0 : 0 ≤ n) (n1 : n < 12) : tldF C n ↔ E 618 n ≠ -1 := by
  obtain ⟨-, -, f3, f4, -⟩ := h
  constructor
  · rintro ⟨i, a, b, c⟩
    have := (f3 i a b).2.1
    rw [c] at this
    omega
  · intro hne
    by_cases ht : tldF C n
    · exact ht
    · exact absurd (f4 n n0 n1 (fun i a b c => ht ⟨i, a, b, c⟩)).1 hne
/-- a file more -/
theorem fl_new (h : flR C E) {n : Int} (n0 : 0 ≤ n) (n1 : n < 12) (ht : ¬ tldF C n) (h12 : C 2 13 < 12) {C' E' : Nat → Int → Int} (c2 : C' 2 13 = C 2 13 + 1) (c6 : C' 6 = cm_u1 (C 6) (C 2 13) n) (c7 : C' 7 = cm_u1 (C 7) (C 2 13) 0) (c8 : C' 8 = C 8) (e20 : E' 613 20 = E 613 20 + 1) (e18 : E' 618 = cm_u1 (cm_u1 (cm_u1 (E 618) n (E 613 20 + 1)) (24 + n) 1) 241 1) : flR C' E' := by
  obtain ⟨f1, f2, f3, f4, f5, f6, f7, f8, f9, f10, f11⟩ := h
  have un := f4 n n0 n1 (fun i a b c => ht ⟨i, a, b, c⟩)
  have e : ∀ y, y ≠ n → y ≠ 24 + n → y ≠ 241 → E' 618 y = E 618 y := fun y a b c => by rw [e18, u1_ne c, u1_ne b, u1_ne a]
  have en : E' 618 n = E 613 20 + 1 := by rw [e18, u1_ne (by omega), u1_ne (by omega), u1_eq]
  have e24 : E' 618 (24 + n) = 1 := by rw [e18, u1_ne (by omega), u1_eq]
  unfold flR
  rw [c2, c8, e20]
  refine ⟨by omega, by omega, fun i i0 i1 => ?_, fun k k0 k1 hk => ?_, fun y y0 y1 => ?_, fun v v0 v1 => ?_, ?_, ?_, ?_, ?_, ?_⟩
  · by_cases hi : i = C 2 13
    · rw [hi, c6, u1_eq, c7, u1_eq, en, e24, e (12 + n) (by omega) (by omega) (by omega)]
      exact ⟨⟨n0, n1⟩, by omega, un.2.1, by omega, rfl, fun c c0 c1 => by omega⟩
    · obtain ⟨g1, g2, g3, g4, g5, g6⟩ := f3 i i0 (by omega)
      have hne : C 6 i ≠ n := fun z => ht ⟨i, i0, by omega, z⟩
      rw [c6, u1_ne hi, c7, u1_ne hi, e (C 6 i) hne (by omega) (by omega), e (12 + C 6 i) (by omega) (by omega) (by omega), e (24 + C 6 i) (by omega) (by omega) (by omega)]
      exact ⟨g1, g2, g3, g4, g5, fun c c0 c1 => by rw [e _ (by omega) (by omega) (by omega)]; exact g6 c c0 c1⟩
  · have hkn : k ≠ n := fun z => hk (C 2 13) (by omega) (by omega) (by rw [c6, u1_eq, z])
    rw [e k hkn (by omega) (by omega), e (12 + k) (by omega) (by omega) (by omega), e (24 + k) (by omega) (by omega) (by omega)]
    exact f4 k k0 k1 (fun i i0 i1 => by
      have := hk i i0 (by omega)
      rw [c6, u1_ne (by omega)] at this
      exact this)
  · rw [e y (by omega) (by omega) (by omega)]; exact f5 y y0 y1
  · rw [e _ (by omega) (by omega) (by omega)]; exact f6 v v0 v1
  · rw [e18, u1_eq, if_neg (by omega)]
  · rw [e _ (by omega) (by omega) (by omega)]; exact f8
  · rw [e _ (by omega) (by omega) (by omega)]; exact f9
  · rw [e _ (by omega) (by omega) (by omega)]; exact f10
  · rw [e _ (by omega) (by omega) (by omega)]; exact f11
/-- a cell more of the last file -/
theorem fl_cell (h : flR C E) {f v : Int} (hf : C 2 13 = f + 1) (f0 : 0 ≤ f) (l8 : C 7 f < 8) {C' E' : Nat → Int → Int} (c2 : C' 2 13 = C 2 13) (c6 : C' 6 = C 6) (c7 : C' 7 = cm_u1 (C 7) f (C 7 f + 1)) (c8 : C' 8 = cm_u1 (C 8) (f * 8 + C 7 f) v) (e20 : E' 613 20 = E 613 20) (e18 : E' 618 = cm_u1 (cm_u1 (E 618) (132 + 8 * C 6 f + C 7 f) v) (12 + C 6 f) (C 7 f + 1)) : flR C' E' := by
  obtain ⟨f1, f2, f3, f4, f5, f6, f7, f8, f9, f10, f11⟩ := h
  obtain ⟨w1, w2, w3, w4, w5, w6⟩ := f3 f f0 (by omega)
  have e : ∀ y, y ≠ 132 + 8 * C 6 f + C 7 f → y ≠ 12 + C 6 f → E' 618 y = E 618 y := fun y a b => by rw [e18, u1_ne b, u1_ne a]
  unfold flR
  rw [c2, c6, e20]
  refine ⟨f1, f2, fun i i0 i1 => ?_, fun k k0 k1 hk => ?_, fun y y0 y1 => ?_, fun v v0 v1 => ?_, ?_, ?_, ?_, ?_, ?_⟩
  · obtain ⟨g1, g2, g3, g4, g5, g6⟩ := f3 i i0 i1
    by_cases hi : i = f
    · rw [hi, c7, u1_eq, c8, e (C 6 f) (by omega) (by omega), e (24 + C 6 f) (by omega) (by omega)]
      refine ⟨w1, w2, by rw [e18, u1_eq], by omega, w5, fun c c0 c1 => ?_⟩
      by_cases hc : c = C 7 f
      · rw [hc, e18, u1_ne (by omega), u1_eq, u1_eq]
      · rw [e _ (by omega) (by omega), u1_ne (by omega)]; exact w6 c c0 (by omega)
    · have hne : C 6 i ≠ C 6 f := fun z => by
        rw [z, w2] at g2
        omega
      rw [c7, u1_ne hi, c8, e (C 6 i) (by omega) (by omega), e (12 + C 6 i) (by omega) (by omega), e (24 + C 6 i) (by omega) (by omega)]
      exact ⟨g1, g2, g3, g4, g5, fun c c0 c1 => by rw [e _ (by omega) (by omega), u1_ne (by omega)]; exact g6 c c0 c1⟩
  · have hkn : k ≠ C 6 f := fun z => hk f f0 (by omega) z.symm
    rw [e k (by omega) (by omega), e (12 + k) (by omega) (by omega), e (24 + k) (by omega) (by omega)]
    exact f4 k k0 k1 hk
  · rw [e y (by omega) (by omega)]; exact f5 y y0 y1
  · rw [e _ (by omega) (by omega)]; exact f6 v v0 v1
  · rw [e _ (by omega) (by omega)]; exact f7
  · rw [e _ (by omega) (by omega)]; exact f8
  · rw [e _ (by omega) (by omega)]; exact f9
  · rw [e _ (by omega) (by omega)]; exact f10
  · rw [e _ (by omega) (by omega)]; exact f11
/-- the cells of a file; class and reference have its name -/
theorem cl_loop (X Y : cm_X) : ∀ (k : Nat) (C E : Nat → Int → Int), 8 - C 7 (C 2 13) ≤ k → pS C E len → pOk C E → dcR C E → bdR C E → flR (cm_up C 2 13 (C 2 13 + 1)) E → 0 ≤ C 2 13 → ∃ C' E', cm_x 58 82 [some (.inr (.inr 2)), some (.inl (C 7 (C 2 13)))] [] (cm_hp C X) = some (.inl none, cm_hp C' X) ∧ cm_x 179 89 [some (.inr (.inr 613)), some (.inl (C 6 (C 2 13))), none] [] (cm_hp E Y) = some (.inl none, cm_hp E' Y) ∧ pF C C' ∧ pE E E' ∧ ((pS C' E' len ∧ pOk C' E' ∧ pD C' E' ∧ C 3 3 ≤ C' 3 3) ∨ pFt C' E') := by
  intro k
  induction k with
  | zero =>
    intro C E h1 hs ho hdc hbd hfl f0
    have hf2 : C 2 13 + 1 ≤ 12 := hfl.2.1.2
    obtain ⟨g1, g2, g3, g4, g5, g6⟩ := hfl.2.2.1 (C 2 13) f0 (by show C 2 13 < C 2 13 + 1; omega)
    have g1 : 0 ≤ C 6 (C 2 13) ∧ C 6 (C 2 13) < 12 := g1
    have g3 : E 618 (12 + C 6 (C 2 13)) = C 7 (C 2 13) := g3
    have g4 : 0 ≤ C 7 (C 2 13) ∧ C 7 (C 2 13) ≤ 8 := g4
    have w13 : cm_wr (C 2 13 + 1) = C 2 13 + 1 := cm_wr_id (by omega) (by omega)
    have t4 : C 3 4 = E 613 12 := hs.2.2.2.2.1
    by_cases h2 : C 3 4 = 2
    · -- the ninth one
      have q2 : (fE E 2) 613 16 ≠ 0 := by show (2 : Int) ≠ 0; omega
      refine ⟨cm_up (fC C 2) 2 13 (C 2 13 + 1), fE E 2, ?_, ?_, pF_tr pF_c pF_2, pE_c, Or.inr (pFt_c hs (show (2 : Int) ≠ 0 by omega))⟩
      · have y13 : (fC C 2) 2 13 = C 2 13 := rfl
        have y1 : ¬ (fC C 2) 2 1 = 0 := by show ¬ (2 : Int) = 0; omega
        have tail : cm_x 58 110 [some (.inr (.inr 2)), some (.inl (C 7 (C 2 13)))] [] (cm_hp (fC C 2) X) = some (.inl none, cm_hp (cm_up (fC C 2) 2 13 (C 2 13 + 1)) X) := by
          rw [sg_X5_readFile_110, sg_X5_readFile_82, y13, w13]
          by_cases h9 : 8 < cm_wr (C 7 (C 2 13) + 1)
          · rw [if_pos h9]
          · rw [if_neg h9, if_neg y1]
        rw [sg_X5_readFile_82, if_neg (by omega), if_pos ho.1, if_pos h2, sg_X5_readCell_0]
        rcases ev_fit hs ho 0 999 X Y with ⟨a1, a2, a3, a4, a5⟩ | ⟨k, a1, a2, a3⟩
        · rw [a4, aft_v, sg_X5_readCell_8, if_neg (by omega), ck_t (by omega), if_neg (by omega), sg_X5_fail_0, aft_n, sg_X5_readCell_31, aft_n, tail]
        · rw [a2, aft_v, sg_X5_readCell_8, if_pos rfl, aft_n, show k = 2 by omega, tail]
      · rw [sg_X9_readFile_89, ev_nx ho.2, aft_v, ← t4, if_pos h2, sg_X9_readFile_93, if_neg (by omega), cm_wr_id (x := 12 + C 6 (C 2 13)) (by omega) (by omega), ck_t (by omega), if_pos (by omega), sg_X9_wrong_0, if_pos ho.2, aft_n, sg_X9_readFile_115, ev_mrF q2, aft_v, sg_X9_readFile_123, if_neg q2]
    · refine ⟨cm_up C 2 13 (C 2 13 + 1), E, ?_, ?_, pF_2, pE_rf, Or.inl ⟨hs, ho, ⟨dcR_c hdc (fun j j0 j1 => by rw [up_same, u1_ne (by omega)]) rfl (fun _ _ _ => rfl), bdR_c hbd rfl rfl rfl rfl, hfl⟩, Int.le_refl _⟩⟩
      · rw [sg_X5_readFile_82, if_neg (by omega), if_pos ho.1, if_neg h2, w13]
      · rw [sg_X9_readFile_89, ev_nx ho.2, aft_v, ← t4, if_neg h2, sg_X9_readFile_93, if_pos rfl]
  | succ k ih =>
    intro C E h1 hs ho hdc hbd hfl f0
    have hf2 : C 2 13 + 1 ≤ 12 := hfl.2.1.2
    obtain ⟨g1, g2, g3, g4, g5, g6⟩ := hfl.2.2.1 (C 2 13) f0 (by show C 2 13 < C 2 13 + 1; omega)
    have g1 : 0 ≤ C 6 (C 2 13) ∧ C 6 (C 2 13) < 12 := g1
    have g3 : E 618 (12 + C 6 (C 2 13)) = C 7 (C 2 13) := g3
    have g4 : 0 ≤ C 7 (C 2 13) ∧ C 7 (C 2 13) ≤ 8 := g4
    have w13 : cm_wr (C 2 13 + 1) = C 2 13 + 1 := cm_wr_id (by omega) (by omega)
    have t4 : C 3 4 = E 613 12 := hs.2.2.2.2.1
    by_cases h2 : C 3 4 = 2
    · have cFail : ∀ q : Int, q ≠ 0 → cm_x 58 110 [some (.inr (.inr 2)), some (.inl (C 7 (C 2 13)))] [] (cm_hp (fC C q) X) = some (.inl none, cm_hp (cm_up (fC C q) 2 13 (C 2 13 + 1)) X) := fun q hq => by
        have y13 : (fC C q) 2 13 = C 2 13 := rfl
        have y1 : ¬ (fC C q) 2 1 = 0 := hq
        rw [sg_X5_readFile_110, sg_X5_readFile_82, y13, w13]
        by_cases h9 : 8 < cm_wr (C 7 (C 2 13) + 1)
        · rw [if_pos h9]
        · rw [if_neg h9, if_neg y1]
      have cl0 : cm_x 58 82 [some (.inr (.inr 2)), some (.inl (C 7 (C 2 13)))] [] (cm_hp C X) = cm_aft 58 107 110 [some (.inr (.inr 2)), some (.inl (C 7 (C 2 13)))] [] (cm_aft 60 5 8 [some (.inr (.inr 2))] [] (cm_x 55 0 [some (.inr (.inr 2)), some (.inl (0)), some (.inl (999))] [] (cm_hp C X))) := by
        rw [sg_X5_readFile_82, if_neg (by omega), if_pos ho.1, if_pos h2, sg_X5_readCell_0]
      by_cases h8 : C 7 (C 2 13) = 8
      · have q2 : (fE E 2) 613 16 ≠ 0 := by show (2 : Int) ≠ 0; omega
        refine ⟨cm_up (fC C 2) 2 13 (C 2 13 + 1), fE E 2, ?_, ?_, pF_tr pF_c pF_2, pE_c, Or.inr (pFt_c hs (show (2 : Int) ≠ 0 by omega))⟩
        · rw [cl0]
          rcases ev_fit hs ho 0 999 X Y with ⟨a1, a2, a3, a4, a5⟩ | ⟨k, a1, a2, a3⟩
          · rw [a4, aft_v, sg_X5_readCell_8, if_neg (by omega), ck_t (by omega), if_neg (by omega), sg_X5_fail_0, aft_n, sg_X5_readCell_31, aft_n, cFail 2 (by omega)]
          · rw [a2, aft_v, sg_X5_readCell_8, if_pos rfl, aft_n, show k = 2 by omega, cFail 2 (by omega)]
        · rw [sg_X9_readFile_89, ev_nx ho.2, aft_v, ← t4, if_pos h2, sg_X9_readFile_93, if_neg (by omega), cm_wr_id (x := 12 + C 6 (C 2 13)) (by omega) (by omega), ck_t (by omega), if_pos (by omega), sg_X9_wrong_0, if_pos ho.2, aft_n, sg_X9_readFile_115, ev_mrF q2, aft_v, sg_X9_readFile_123, if_neg q2]
      · have md0 : cm_x 179 89 [some (.inr (.inr 613)), some (.inl (C 6 (C 2 13))), none] [] (cm_hp E Y) = cm_aft 179 120 123 [some (.inr (.inr 613)), some (.inl (C 6 (C 2 13))), none] [] (cm_aft 175 3 6 [some (.inr (.inr 613)), some (.inl (0)), some (.inl (999)), none] [] (cm_x 174 0 [some (.inr (.inr 613)), some (.inl (0)), some (.inl (999))] [] (cm_hp E Y))) := by
          rw [sg_X9_readFile_89, ev_nx ho.2, aft_v, ← t4, if_pos h2, sg_X9_readFile_93, if_neg (by omega), cm_wr_id (x := 12 + C 6 (C 2 13)) (by omega) (by omega), ck_t (by omega), if_neg (by omega), sg_X9_readFile_115, sg_X9_readNumber_0]
        rcases ev_fit hs ho 0 999 X Y with ⟨a1, a2, a3, a4, a5⟩ | ⟨q, a1, a2, a3⟩
        · -- a cell
          generalize hv : C 3 5 = v at *
          have hs1 : pS (cm_up (cm_up C 8 (C 2 13 * 8 + C 7 (C 2 13)) v) 7 (C 2 13) (C 7 (C 2 13) + 1)) E len := hs
          obtain ⟨hx, t1, t2, t3, t4', t5, t6, t7, t8⟩ := hs1
          obtain ⟨C2, E2, c1, c2, c3, c4, c5, c6⟩ := ev_tok hx t1 (by omega) (by omega) X Y
          have hlt : C 3 3 < C2 3 3 := by
            have z1 := hs.2.2.2.2.2.2.1 (by omega)
            have z2 : C 3 2 ≤ C2 3 3 := c4
            omega
          have y2 : C2 2 = C 2 := c5.2 2 (by omega)
          have y6 : C2 6 = C 6 := c5.2 6 (by omega)
          have y7 : C2 7 = cm_u1 (C 7) (C 2 13) (C 7 (C 2 13) + 1) := by rw [c5.2 7 (by omega)]; rfl
          have y8 : C2 8 = cm_u1 (C 8) (C 2 13 * 8 + C 7 (C 2 13)) v := by rw [c5.2 8 (by omega)]; rfl
          have y77 : C2 7 (C2 2 13) = C 7 (C 2 13) + 1 := by rw [y2, y7, u1_eq]
          have ho2 : pOk C2 E2 := pOk_t (C := cm_up (cm_up C 8 (C 2 13 * 8 + C 7 (C 2 13)) v) 7 (C 2 13) (C 7 (C 2 13) + 1)) (E := E) ho c5 c6
          have z618 : E2 618 = E 618 := c6.2 618 (by omega)
          generalize hE3 : cm_up (cm_up E2 618 (132 + 8 * C 6 (C 2 13) + C 7 (C 2 13)) v) 618 (12 + C 6 (C 2 13)) (C 7 (C 2 13) + 1) = E3
          have s618 : E3 618 = cm_u1 (cm_u1 (E 618) (132 + 8 * C 6 (C 2 13) + C 7 (C 2 13)) v) (12 + C 6 (C 2 13)) (C 7 (C 2 13) + 1) := by rw [← hE3, up_same, up_same, z618]
          have sx : ∀ x : Nat, x ≠ 618 → E3 x = E2 x := fun x hx => by rw [← hE3, up_row hx, up_row hx]
          have hs3 : pS C2 E3 len := by
            have hsm : pS C2 E2 len := ⟨txR_f hx (pF_t c5) (pE_t c6), c3⟩
            rw [← hE3]
            exact hsm
          have ho3 : pOk C2 E3 := ⟨ho2.1, by rw [sx 613 (by omega)]; exact ho2.2⟩
          have hdc3 : dcR C2 E3 := dcR_c hdc (fun j _ _ => by rw [y2]) (by rw [sx 613 (by omega), c6.1 19 (by omega) (by omega) (by omega) (by omega) (by omega)]) (fun j _ _ => by rw [sx 614 (by omega), c6.2 614 (by omega)])
          have hbd3 : bdR C2 E3 := bdR_c hbd (by rw [y2]) (by rw [c5.2 5 (by omega)]; rfl) (by rw [sx 614 (by omega), c6.2 614 (by omega)]) (by rw [sx 615 (by omega), c6.2 615 (by omega)])
          have hfl3 : flR (cm_up C2 2 13 (C2 2 13 + 1)) E3 := by
            refine fl_cell (C := cm_up C 2 13 (C 2 13 + 1)) (f := C 2 13) (v := v) hfl rfl f0 (by show C 7 (C 2 13) < 8; omega) ?_ y6 y7 y8 ?_ s618
            · show C2 2 13 + 1 = C 2 13 + 1
              rw [y2]
            · rw [sx 613 (by omega), c6.1 20 (by omega) (by omega) (by omega) (by omega) (by omega)]
          obtain ⟨C', E', d1, d2, d3, d4, d5⟩ := ih C2 E3 (by rw [y77]; omega) hs3 ho3 hdc3 hbd3 hfl3 (by rw [y2]; exact f0)
          rw [y77] at d1
          rw [y2, y6] at d2
          refine ⟨C', E', ?_, ?_, pF_tr (pF_tr (C' := cm_up (cm_up C 8 (C 2 13 * 8 + C 7 (C 2 13)) v) 7 (C 2 13) (C 7 (C 2 13) + 1)) ⟨rfl, fun x _ _ _ _ h7 h8 => by rw [up_row h7, up_row h8]⟩ (pF_t c5)) d3, pE_tr (pE_t c6) (pE_tr ⟨fun j _ _ _ _ _ _ _ _ _ => by rw [sx 613 (by omega)], fun j _ => by rw [sx 614 (by omega)], fun j _ => by rw [sx 615 (by omega)], fun x _ _ _ h4 => sx x h4⟩ d4), d5.imp (fun z => ⟨z.1, z.2.1, z.2.2.1, by have := z.2.2.2; omega⟩) id⟩
          · rw [cl0, a4, aft_v, sg_X5_readCell_8, if_neg (by omega), ck_t (by omega), if_pos (by omega), ck_t (by omega), cm_wr_id (x := C 2 13 * 8) (by omega) (by omega), cm_wr_id (x := C 2 13 * 8 + C 7 (C 2 13)) (by omega) (by omega), ck_t (by omega), ck_t (by omega), ck_t (by omega), hv, cm_wr_id (x := C 7 (C 2 13) + 1) (by omega) (by omega), c1, aft_n, sg_X5_readCell_81, aft_n, sg_X5_readFile_110, cm_wr_id (x := C 7 (C 2 13) + 1) (by omega) (by omega), d1]
          · have u12 : (cm_u1 (E2 618) (132 + 8 * C 6 (C 2 13) + C 7 (C 2 13)) v) (12 + C 6 (C 2 13)) = C 7 (C 2 13) := by rw [u1_ne (by omega), z618]; exact g3
            rw [md0, a5, aft_v, sg_X9_readNumber_6, if_pos ho.2, c2, aft_n, sg_X9_readNumber_18, aft_v, sg_X9_readFile_123, if_pos ho2.2, cm_wr_id (x := 12 + C 6 (C 2 13)) (by omega) (by omega), ck_t (by omega), z618, g3, cm_wr_id (x := 8 * C 6 (C 2 13)) (by omega) (by omega), cm_wr_id (x := 132 + 8 * C 6 (C 2 13)) (by omega) (by omega), cm_wr_id (x := 132 + 8 * C 6 (C 2 13) + C 7 (C 2 13)) (by omega) (by omega), ck_t (by omega), ck_t (by omega), ck_t (by omega), ← z618, u12, cm_wr_id (x := C 7 (C 2 13) + 1) (by omega) (by omega), hE3, d2]
        · have hq : q ≠ 0 := by omega
          have qe : ¬ (fE E q) 613 16 = 0 := hq
          refine ⟨cm_up (fC C q) 2 13 (C 2 13 + 1), fE E q, ?_, ?_, pF_tr pF_c pF_2, pE_c, Or.inr (pFt_c hs hq)⟩
          · rw [cl0, a2, aft_v, sg_X5_readCell_8, if_pos rfl, aft_n, cFail q hq]
          · rw [md0, a3, aft_v, sg_X9_readNumber_6, if_neg qe, sg_X9_readNumber_18, aft_v, sg_X9_readFile_123, if_neg qe]
    · refine ⟨cm_up C 2 13 (C 2 13 + 1), E, ?_, ?_, pF_2, pE_rf, Or.inl ⟨hs, ho, ⟨dcR_c hdc (fun j j0 j1 => by rw [up_same, u1_ne (by omega)]) rfl (fun _ _ _ => rfl), bdR_c hbd rfl rfl rfl rfl, hfl⟩, Int.le_refl _⟩⟩
      · rw [sg_X5_readFile_82, if_neg (by omega), if_pos ho.1, if_neg h2, w13]
      · rw [sg_X9_readFile_89, ev_nx ho.2, aft_v, ← t4, if_neg h2, sg_X9_readFile_93, if_pos rfl]
theorem rd_file (hs : pS C E len) (ho : pOk C E) (hd : pD C E) (hk : C 3 4 ≠ 0) (X Y : cm_X) : ∃ C' E', cm_x 58 0 [some (.inr (.inr 2)), none] [] (cm_hp C X) = some (.inl none, cm_hp C' X) ∧ cm_x 179 0 [some (.inr (.inr 613)), none, none] [] (cm_hp E Y) = some (.inl none, cm_hp E' Y) ∧ pF C C' ∧ pE E E' ∧ ((pS C' E' len ∧ pOk C' E' ∧ pD C' E' ∧ C 3 3 < C' 3 3) ∨ pFt C' E') := by
  have hs' := hs
  obtain ⟨hx, t1, t2, t3, t4, t5, t6, t7, t8⟩ := hs
  obtain ⟨C1, E1, b1, b2, b3, b4, b5, b6⟩ := ev_tok hx t1 (by omega) (by omega) X Y
  have h1 := t6 hk
  have hs1 : pS C1 E1 len := ⟨txR_f hx (pF_t b5) (pE_t b6), b3⟩
  have ho1 := pOk_t ho b5 b6
  obtain ⟨hdc, hbd, hfl⟩ := pD_t hd b5 b6
  have ff := hfl.2.1
  rcases ev_fit hs1 ho1 0 11 X Y with ⟨a1, a2, a3, a4, a5⟩ | ⟨q, a1, a2, a3⟩
  · have htd := fl_tld hfl a2.1 (show C1 3 5 < 12 by omega)
    have cl0 : cm_x 58 0 [some (.inr (.inr 2)), none] [] (cm_hp C X) = cm_x 58 29 [some (.inr (.inr 2)), none] [.inl (tv (tldF C1 (C1 3 5)))] (cm_hp C1 X) := by
      rw [sg_X5_readFile_0, b1, aft_n, sg_X5_readFile_7, a4, aft_v, sg_X5_readFile_14, if_neg (by omega), ev_told ff.1 ff.2, aft_v]
    have md0 : cm_x 179 0 [some (.inr (.inr 613)), none, none] [] (cm_hp E Y) = (if E1 618 (C1 3 5) = -1 then cm_x 179 36 [some (.inr (.inr 613)), some (.inl (C1 3 5)), none] [] (cm_hp E1 Y) else cm_aft 179 33 36 [some (.inr (.inr 613)), some (.inl (C1 3 5)), none] [] (cm_x 172 0 [some (.inr (.inr 613)), some (.inl (4))] [] (cm_hp E1 Y))) := by
      rw [sg_X9_readFile_0, b2, aft_n, sg_X9_readFile_4, a5, aft_v, sg_X9_readFile_11, if_pos ho1.2, Int.zero_add, cm_wr_id (x := C1 3 5) (by omega) (by omega), ck_t (by omega)]
    by_cases ht : tldF C1 (C1 3 5)
    · have qe : ¬ (fE E1 4) 613 16 = 0 := by show ¬ (4 : Int) = 0; omega
      refine ⟨fC C1 4, fE E1 4, ?_, ?_, pF_tr (pF_t b5) pF_c, pE_tr (pE_t b6) pE_c, Or.inr (pFt_c hs1 (by omega))⟩
      · rw [cl0, sg_X5_readFile_29, tv_t ht, if_neg (by omega), sg_X5_fail_0, aft_n, sg_X5_readFile_46]
      · rw [md0, if_neg (htd.mp ht), sg_X9_wrong_0, if_pos ho1.2, aft_n, sg_X9_readFile_36, if_neg qe]
    · have h12 : C1 2 13 < 12 := by
        by_cases z : C1 2 13 < 12
        · exact z
        · exact absurd (fl_12 hfl (by omega) a2.1 (by omega)) ht
      have hne : E1 618 (C1 3 5) = -1 := by
        by_cases z : E1 618 (C1 3 5) = -1
        · exact z
        · exact absurd (htd.mpr z) ht
      generalize hv : C1 3 5 = v at *
      have hs2 : pS (cm_up (cm_up C1 6 (C1 2 13) v) 7 (C1 2 13) 0) E1 len := hs1
      obtain ⟨hx2, u1, u2, u3, u4, u5, u6, u7, u8⟩ := hs2
      obtain ⟨C2, E2, c1, c2, c3, c4, c5, c6⟩ := ev_tok hx2 u1 (by omega) (by omega) X Y
      have hlt : C1 3 3 < C2 3 3 := by
        have z1 := hs1.2.2.2.2.2.2.1 (by omega)
        have z2 : C1 3 2 ≤ C2 3 3 := c4
        omega
      have y2 : C2 2 = C1 2 := c5.2 2 (by omega)
      have y6 : C2 6 = cm_u1 (C1 6) (C1 2 13) v := by rw [c5.2 6 (by omega)]; rfl
      have y7 : C2 7 = cm_u1 (C1 7) (C1 2 13) 0 := by rw [c5.2 7 (by omega)]; rfl
      have y8 : C2 8 = C1 8 := by rw [c5.2 8 (by omega)]; rfl
      have ho2 : pOk C2 E2 := pOk_t (C := cm_up (cm_up C1 6 (C1 2 13) v) 7 (C1 2 13) 0) (E := E1) ho1 c5 c6
      have z618 : E2 618 = E1 618 := c6.2 618 (by omega)
      have z20 : E2 613 20 = E1 613 20 := c6.1 20 (by omega) (by omega) (by omega) (by omega) (by omega)
      have hf20 := hfl.1
      generalize hE3 : cm_up (cm_up (cm_up (cm_up E2 613 20 (E1 613 20 + 1)) 618 v (E1 613 20 + 1)) 618 (24 + v) 1) 618 241 1 = E3
      have s618 : E3 618 = cm_u1 (cm_u1 (cm_u1 (E1 618) v (E1 613 20 + 1)) (24 + v) 1) 241 1 := by rw [← hE3, up_same, up_same, up_same, up_row (by omega), z618]
      have s613 : E3 613 = cm_u1 (E2 613) 20 (E1 613 20 + 1) := by rw [← hE3, up_row (by omega), up_row (by omega), up_row (by omega), up_same]
      have sx : ∀ x : Nat, x ≠ 618 → x ≠ 613 → E3 x = E2 x := fun x hx h6 => by rw [← hE3, up_row hx, up_row hx, up_row hx, up_row h6]
      have hs3 : pS C2 E3 len := by
        have hsm : pS C2 E2 len := ⟨txR_f hx2 (pF_t c5) (pE_t c6), c3⟩
        rw [← hE3]
        exact hsm
      have ho3 : pOk C2 E3 := ⟨ho2.1, by rw [s613, u1_ne (by omega)]; exact ho2.2⟩
      have hdc3 : dcR C2 E3 := dcR_c hdc (fun j _ _ => by rw [y2]) (by rw [s613, u1_ne (by omega), c6.1 19 (by omega) (by omega) (by omega) (by omega) (by omega)]) (fun j _ _ => by rw [sx 614 (by omega) (by omega), c6.2 614 (by omega)])
      have hbd3 : bdR C2 E3 := bdR_c hbd (by rw [y2]) (by rw [c5.2 5 (by omega)]; rfl) (by rw [sx 614 (by omega) (by omega), c6.2 614 (by omega)]) (by rw [sx 615 (by omega) (by omega), c6.2 615 (by omega)])
      have hfl3 : flR (cm_up C2 2 13 (C2 2 13 + 1)) E3 := by
        refine fl_new hfl a2.1 (by omega) ht h12 ?_ y6 y7 y8 (by rw [s613, u1_eq]) s618
        show C2 2 13 + 1 = C1 2 13 + 1
        rw [y2]
      have y77 : C2 7 (C2 2 13) = 0 := by rw [y2, y7, u1_eq]
      have y66 : C2 6 (C2 2 13) = v := by rw [y2, y6, u1_eq]
      obtain ⟨C', E', d1, d2, d3, d4, d5⟩ := cl_loop (len := len) X Y 8 C2 E3 (by rw [y77]; omega) hs3 ho3 hdc3 hbd3 hfl3 (by rw [y2]; exact ff.1)
      rw [y77] at d1
      rw [y66] at d2
      refine ⟨C', E', ?_, ?_, pF_tr (pF_t b5) (pF_tr (pF_tr (C' := cm_up (cm_up C1 6 (C1 2 13) v) 7 (C1 2 13) 0) ⟨rfl, fun x _ _ _ h6 h7 _ => by rw [up_row h7, up_row h6]⟩ (pF_t c5)) d3), pE_tr (pE_t b6) (pE_tr (pE_t c6) (pE_tr ⟨fun j _ _ _ _ _ _ _ _ h9 => by rw [s613, u1_ne h9], fun j _ => by rw [sx 614 (by omega) (by omega)], fun j _ => by rw [sx 615 (by omega) (by omega)], fun x h1 _ _ h4 => sx x h4 h1⟩ d4)), d5.imp (fun z => ⟨z.1, z.2.1, z.2.2.1, by have := z.2.2.2; omega⟩) id⟩
      · rw [cl0, sg_X5_readFile_29, tv_f ht, if_pos rfl, if_pos h12, ck_t (by omega), ck_t (by omega), hv, c1, aft_n, sg_X5_readFile_80, d1]
      · rw [md0, if_pos hne, sg_X9_readFile_36, if_pos ho1.2, c2, aft_n, sg_X9_readFile_48, Int.zero_add, cm_wr_id (x := v) (by omega) (by omega), ck_t (by omega), cm_wr_id (x := 24 + v) (by omega) (by omega), ck_t (by omega), z20, cm_wr_id (x := E1 613 20 + 1) (by omega) (by omega), hE3, d2]
  · have hq : q ≠ 0 := by omega
    have qe : ¬ (fE E1 q) 613 16 = 0 := hq
    refine ⟨fC C1 q, fE E1 q, ?_, ?_, pF_tr (pF_t b5) pF_c, pE_tr (pE_t b6) pE_c, Or.inr (pFt_c hs1 hq)⟩
    · rw [sg_X5_readFile_0, b1, aft_n, sg_X5_readFile_7, a2, aft_v, sg_X5_readFile_14, if_pos rfl]
    · rw [sg_X9_readFile_0, b2, aft_n, sg_X9_readFile_4, a3, aft_v, sg_X9_readFile_11, if_neg qe, sg_X9_readFile_36, if_neg qe]
