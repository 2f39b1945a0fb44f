/-! reading: faulty blocks: both -/
variable {C C' D E E' F : Nat → Int → Int} {X Y : cm_X} {T : Int → Int} {len : Int}
/-- behind a fault: the look for the same block -/
theorem mB45F (h : E 613 16 ≠ 0) (c0 : 0 ≤ E 614 9) (c1 : E 614 9 ≤ 12) {m b : Int} : ∀ (k : Nat) (j : Int), E 614 9 - j ≤ k → 0 ≤ j → j ≤ E 614 9 → cm_x 178 45 [some (.inr (.inr 613)), some (.inl (m)), some (.inl (b)), some (.inl (j))] [] (cm_hp E X) = some (.inl none, cm_hp E X) := by
  intro k
  induction k with
  | zero => intro j h1 h2 h3; rw [sg_X9_readBad_45, if_neg (by omega), if_neg h]
  | succ k ih =>
    intro j h1 h2 h3
    by_cases hj : j < E 614 9
    · have w : cm_wr (j + 1) = j + 1 := cm_wr_id (by omega) (by omega)
      rw [sg_X9_readBad_45, if_pos hj, cm_wr_id (x := 12 + j) (by omega) (by omega), ck_t (by omega)]
      by_cases hq : E 615 (12 + j) = b
      · rw [if_pos hq, sg_X9_wrong_0, if_neg h, aft_n, sg_X9_readBad_74, w]; exact ih (j + 1) (by omega) (by omega) (by omega)
      · rw [if_neg hq, sg_X9_readBad_74, w]; exact ih (j + 1) (by omega) (by omega) (by omega)
    · rw [sg_X9_readBad_45, if_neg hj, if_neg h]
/-- the look for the same block -/
theorem mB45 (h : E 613 16 = 0) (c0 : 0 ≤ E 614 9) (c1 : E 614 9 ≤ 12) {m b : Int} : ∀ (k : Nat) (j : Int), E 614 9 - j ≤ k → 0 ≤ j → j ≤ E 614 9 → ((∃ i, j ≤ i ∧ i < E 614 9 ∧ E 615 (12 + i) = b) → cm_x 178 45 [some (.inr (.inr 613)), some (.inl (m)), some (.inl (b)), some (.inl (j))] [] (cm_hp E X) = some (.inl none, cm_hp (fE E 4) X)) ∧ ((¬ ∃ i, j ≤ i ∧ i < E 614 9 ∧ E 615 (12 + i) = b) → cm_x 178 45 [some (.inr (.inr 613)), some (.inl (m)), some (.inl (b)), some (.inl (j))] [] (cm_hp E X) = cm_x 178 45 [some (.inr (.inr 613)), some (.inl (m)), some (.inl (b)), some (.inl (E 614 9))] [] (cm_hp E X)) := by
  intro k
  induction k with
  | zero => intro j h1 h2 h3; exact ⟨fun ⟨i, a, b, _⟩ => by omega, fun _ => by rw [show j = E 614 9 by omega]⟩
  | succ k ih =>
    intro j h1 h2 h3
    by_cases hj : j < E 614 9
    · have w : cm_wr (j + 1) = j + 1 := cm_wr_id (by omega) (by omega)
      obtain ⟨i1, i2⟩ := ih (j + 1) (by omega) (by omega) (by omega)
      have q4 : (fE E 4) 613 16 ≠ 0 := by show (4 : Int) ≠ 0; omega
      have q9 : (fE E 4) 614 9 = E 614 9 := rfl
      refine ⟨fun ⟨i, a, b', c⟩ => ?_, fun hn => ?_⟩
      · rw [sg_X9_readBad_45, if_pos hj, cm_wr_id (x := 12 + j) (by omega) (by omega), ck_t (by omega)]
        by_cases hq : E 615 (12 + j) = b
        · rw [if_pos hq, sg_X9_wrong_0, if_pos h, aft_n, sg_X9_readBad_74, w]
          exact mB45F (E := fE E 4) q4 (by rw [q9]; exact c0) (by rw [q9]; exact c1) k (j + 1) (by rw [q9]; omega) (by omega) (by rw [q9]; omega)
        · rw [if_neg hq, sg_X9_readBad_74, w]
          refine i1 ⟨i, ?_, b', c⟩
          by_cases hi : i = j
          · rw [hi] at c; exact absurd c hq
          · omega
      · rw [sg_X9_readBad_45, if_pos hj, cm_wr_id (x := 12 + j) (by omega) (by omega), ck_t (by omega), if_neg (fun z => hn ⟨j, by omega, hj, z⟩), sg_X9_readBad_74, w]
        exact i2 (fun ⟨i, a, b', c⟩ => hn ⟨i, by omega, b', c⟩)
    · exact ⟨fun ⟨i, a, b, _⟩ => by omega, fun _ => by rw [show j = E 614 9 by omega]⟩
theorem ev_nx (ho : E 613 16 = 0) : cm_x 176 0 [some (.inr (.inr 613))] [] (cm_hp E X) = some (.inl (some (.inl (if E 613 12 = 2 then 1 else 0))), cm_hp E X) := by
  rw [sg_X9_isNumberNext_0, if_pos ho]
  by_cases h : E 613 12 = 2
  · rw [if_pos h, if_pos h]
  · rw [if_neg h, if_neg h]
/-- one faulty block -/
theorem bd_step (hs : pS C E len) (ho : pOk C E) (hd : pD C E) {m : Int} (hm : m ≠ 0) (X Y : cm_X) : ∃ C' E', cm_x 57 0 [some (.inr (.inr 2))] [] (cm_hp C X) = some (.inl none, cm_hp C' X) ∧ pF C C' ∧ pE E E' ∧ ((pS C' E' len ∧ pOk C' E' ∧ pD C' E' ∧ C 3 3 < C' 3 3 ∧ C' 2 9 = C 2 9 + 1 ∧ cm_x 178 6 [some (.inr (.inr 613)), some (.inl (m)), none, none] [] (cm_hp E Y) = cm_x 178 6 [some (.inr (.inr 613)), some (.inl (if C' 3 4 = 2 then 1 else 0)), none, none] [] (cm_hp E' Y)) ∨ (pFt C' E' ∧ cm_x 178 6 [some (.inr (.inr 613)), some (.inl (m)), none, none] [] (cm_hp E Y) = some (.inl none, cm_hp E' Y))) := by
  have ho' := ho
  obtain ⟨o1, o2⟩ := ho
  obtain ⟨hd1, hd2, hd3⟩ := hd
  obtain ⟨b1, b2, b3⟩ := hd2
  have t4 : C 3 4 = E 613 12 := hs.2.2.2.2.1
  have md0 : cm_x 178 6 [some (.inr (.inr 613)), some (.inl (m)), none, none] [] (cm_hp E Y) = cm_x 178 14 [some (.inr (.inr 613)), some (.inl (m)), none, none] [.inl (if C 3 4 = 2 then 1 else 0)] (cm_hp E Y) := by
    rw [sg_X9_readBad_6, if_neg hm, ev_nx o2, aft_v, ← t4]
  -- too many: a fault that the reference sees first
  have many : C 3 4 = 2 → E 614 9 = 12 → cm_x 178 14 [some (.inr (.inr 613)), some (.inl (m)), none, none] [.inl (if C 3 4 = 2 then 1 else 0)] (cm_hp E Y) = some (.inl none, cm_hp (fE E 2) Y) := fun h2 h12 => by
    have q2 : (fE E 2) 613 16 ≠ 0 := by show (2 : Int) ≠ 0; omega
    have q9 : (fE E 2) 614 9 = E 614 9 := rfl
    rw [if_pos h2, sg_X9_readBad_14, if_neg (by omega), if_pos h12, sg_X9_wrong_0, if_pos o2, aft_n, sg_X9_readBad_34, sg_X9_numberNow_0, if_neg q2, aft_v, sg_X9_readBad_42]
    exact mB45F (E := fE E 2) q2 (by rw [q9]; omega) (by rw [q9]; omega) 12 0 (by rw [q9]; omega) (by omega) (by rw [q9]; omega)
  have few : ¬ (C 3 4 = 2 ∧ E 614 9 = 12) → cm_x 178 14 [some (.inr (.inr 613)), some (.inl (m)), none, none] [.inl (if C 3 4 = 2 then 1 else 0)] (cm_hp E Y) = cm_x 178 34 [some (.inr (.inr 613)), some (.inl (m)), none, none] [] (cm_hp E Y) := fun h => by
    rw [sg_X9_readBad_14]
    by_cases h2 : C 3 4 = 2
    · rw [if_pos h2, if_neg (by omega), if_neg (fun z => h ⟨h2, z⟩)]
    · rw [if_neg h2, if_pos rfl]
  rcases ev_fit hs ho' 0 399 X Y with ⟨a1, a2, a3, a4, a5⟩ | ⟨k, a1, a2, a3⟩
  · by_cases h12 : C 2 9 < 12
    · have hfew := few (fun z => by omega)
      have h5 := b3 (C 3 5) a2.1 (by omega)
      have md1 : cm_x 178 6 [some (.inr (.inr 613)), some (.inl (m)), none, none] [] (cm_hp E Y) = cm_x 178 45 [some (.inr (.inr 613)), some (.inl (m)), some (.inl (C 3 5)), some (.inl (0))] [] (cm_hp E Y) := by
        rw [md0, hfew, sg_X9_readBad_34, a5, aft_v, sg_X9_readBad_42]
      obtain ⟨l1, l2⟩ := mB45 (X := Y) (m := m) (b := C 3 5) o2 (by omega) (by omega) 12 0 (by omega) (by omega) (by omega)
      by_cases hq : C 5 (C 3 5) = 0
      · have hno : ¬ ∃ i, 0 ≤ i ∧ i < E 614 9 ∧ E 615 (12 + i) = C 3 5 := fun ⟨i, z0, z1, z2⟩ => by
          have := h5.2.mpr ⟨i, z0, by omega, z2⟩
          omega
        generalize hv : C 3 5 = v at *
        have hs1 : pS (cm_up (cm_up C 5 v 1) 2 9 (C 2 9 + 1)) (cm_up (cm_up E 615 (12 + E 614 9) v) 614 9 (E 614 9 + 1)) len := hs
        obtain ⟨hx, t1, t2, t3, t4', t5, t6, t7, t8⟩ := hs1
        obtain ⟨C2, E2, c1, c2, c3, c4, c5, c6⟩ := ev_tok hx t1 (by omega) (by omega) X Y
        have hlt : C 3 3 < C2 3 3 := by
          have h1 := hs.2.2.2.2.2.2.1 (by omega)
          have h2 : C 3 2 ≤ C2 3 3 := c4
          omega
        have ho2 : pOk C2 E2 := pOk_t (C := cm_up (cm_up C 5 v 1) 2 9 (C 2 9 + 1)) (E := cm_up (cm_up E 615 (12 + E 614 9) v) 614 9 (E 614 9 + 1)) ⟨o1, o2⟩ c5 c6
        have y2 : C2 2 = cm_u1 (C 2) 9 (C 2 9 + 1) := by rw [c5.2 2 (by omega)]; rfl
        have y5 : C2 5 = cm_u1 (C 5) v 1 := by rw [c5.2 5 (by omega)]; rfl
        have yr : ∀ x : Nat, x ≠ 2 → x ≠ 3 → x ≠ 5 → C2 x = C x := fun x h2 h3 h5 => by rw [c5.2 x h3, up_row h2, up_row h5]
        have z4 : E2 614 = cm_u1 (E 614) 9 (E 614 9 + 1) := by rw [c6.2 614 (by omega)]; rfl
        have z5 : E2 615 = cm_u1 (E 615) (12 + E 614 9) v := by rw [c6.2 615 (by omega)]; rfl
        have zr : ∀ x : Nat, x ≠ 613 → x ≠ 614 → x ≠ 615 → E2 x = E x := fun x h1 h2 h3 => by rw [c6.2 x h1, up_row h2, up_row h3]
        have zs : ∀ j, j ≠ 10 → j ≠ 12 → j ≠ 13 → j ≠ 14 → j ≠ 15 → E2 613 j = E 613 j := fun j h1 h2 h3 h4 h5 => by rw [c6.1 j h1 h2 h3 h4 h5]; rfl
        have hD : pD C2 E2 := by
          refine ⟨dcR_c hd1 (fun j j0 j1 => by rw [y2, u1_ne (by omega)]) (zs 19 (by omega) (by omega) (by omega) (by omega) (by omega)) (fun j j0 j1 => by rw [z4, u1_ne (by omega)]), ⟨?_, ?_, fun b b0 b1' => ?_⟩, flR_c hd3 (by rw [y2, u1_ne (by omega)]) (yr 6 (by omega) (by omega) (by omega)) (yr 7 (by omega) (by omega) (by omega)) (yr 8 (by omega) (by omega) (by omega)) (zs 20 (by omega) (by omega) (by omega) (by omega) (by omega)) (zr 618 (by omega) (by omega) (by omega))⟩
          · rw [z4, u1_eq, y2, u1_eq, b1]
          · rw [y2, u1_eq]; omega
          · rw [y5, y2, u1_eq, z5]
            by_cases hbv : b = v
            · rw [hbv, u1_eq]
              refine ⟨Or.inr rfl, fun _ => ⟨C 2 9, by omega, by omega, ?_⟩, fun _ => rfl⟩
              rw [b1, u1_eq]
            · rw [u1_ne hbv]
              obtain ⟨g1, g2⟩ := b3 b b0 b1'
              refine ⟨g1, g2.trans ⟨fun ⟨k, k0, k1, k2⟩ => ⟨k, k0, by omega, by rw [u1_ne (by omega)]; exact k2⟩, fun ⟨k, k0, k1, k2⟩ => ?_⟩⟩
              by_cases hk : k = C 2 9
              · rw [hk, b1, u1_eq] at k2
                exact absurd k2.symm hbv
              · rw [u1_ne (by omega)] at k2
                exact ⟨k, k0, by omega, k2⟩
        refine ⟨C2, E2, ?_, pF_tr (C' := cm_up (cm_up C 5 v 1) 2 9 (C 2 9 + 1)) ⟨rfl, fun x h2 _ h5 _ _ _ => by rw [up_row h2, up_row h5]⟩ (pF_t c5), pE_tr (E' := cm_up (cm_up E 615 (12 + E 614 9) v) 614 9 (E 614 9 + 1)) ⟨fun _ _ _ _ _ _ _ _ _ _ => rfl, fun j hj => by rw [up_same, u1_ne (by omega)]; rfl, fun j hj => by rw [up_row (by omega), up_same, u1_ne (by omega)], fun x _ h2 h3 _ => by rw [up_row h2, up_row h3]⟩ (pE_t c6), Or.inl ⟨⟨txR_f hx (pF_t c5) (pE_t c6), c3⟩, ho2, hD, hlt, by rw [y2, u1_eq], ?_⟩⟩
        · rw [sg_X5_readBadBlock_0, a4, aft_v, sg_X5_readBadBlock_8, if_neg (by omega), if_pos h12, hv, ck_t (by omega), if_pos hq, ck_t (by omega), cm_wr_id (x := C 2 9 + 1) (by omega) (by omega), c1, aft_n, sg_X5_readBadBlock_82]
        · have t4c : C2 3 4 = E2 613 12 := c3.2.2.2.1
          rw [md1, l2 hno, sg_X9_readBad_45, if_neg (by omega), if_pos o2, cm_wr_id (x := 12 + E 614 9) (by omega) (by omega), ck_t (by omega), cm_wr_id (x := E 614 9 + 1) (by omega) (by omega), c2, aft_n, sg_X9_readBad_119, ev_nx ho2.2, aft_v, sg_X9_readBad_123, t4c]
      · have hq1 : C 5 (C 3 5) = 1 := h5.1.resolve_left hq
        obtain ⟨k, k0, k1, k2⟩ := h5.2.mp hq1
        refine ⟨fC C 4, fE E 4, ?_, pF_c, pE_c, Or.inr ⟨pFt_c hs (by omega), ?_⟩⟩
        · rw [sg_X5_readBadBlock_0, a4, aft_v, sg_X5_readBadBlock_8, if_neg (by omega), if_pos h12, ck_t (by omega), if_neg hq, sg_X5_fail_0, aft_n, sg_X5_readBadBlock_49, sg_X5_readBadBlock_82]
        · rw [md1, l1 ⟨k, k0, by omega, k2⟩]
    · refine ⟨fC C 2, fE E 2, ?_, pF_c, pE_c, Or.inr ⟨pFt_c hs (by omega), ?_⟩⟩
      · rw [sg_X5_readBadBlock_0, a4, aft_v, sg_X5_readBadBlock_8, if_neg (by omega), if_neg h12, sg_X5_fail_0, aft_n, sg_X5_readBadBlock_26, sg_X5_readBadBlock_82]
      · rw [md0, many a1 (by omega)]
  · refine ⟨fC C k, fE E k, ?_, pF_c, pE_c, Or.inr ⟨pFt_c hs (by omega), ?_⟩⟩
    · rw [sg_X5_readBadBlock_0, a2, aft_v, sg_X5_readBadBlock_8, if_pos rfl]
    · rw [md0]
      by_cases h12 : C 3 4 = 2 ∧ E 614 9 = 12
      · rw [many h12.1 h12.2, show k = 2 by omega]
      · have qk : (fE E k) 613 16 ≠ 0 := by show k ≠ 0; omega
        have q9 : (fE E k) 614 9 = E 614 9 := rfl
        rw [few h12, sg_X9_readBad_34, a3, aft_v, sg_X9_readBad_42]
        exact mB45F (E := fE E k) qk (by rw [q9]; omega) (by rw [q9]; omega) 12 0 (by rw [q9]; omega) (by omega) (by rw [q9]; omega)
theorem bd_loop (X Y : cm_X) : ∀ (k : Nat) (C E : Nat → Int → Int) (j : Int), 12 - C 2 9 ≤ k → pS C E len → pOk C E → pD C E → 0 ≤ j → j + 1 ≤ C 2 9 → ∃ C' E', cm_x 56 13 [some (.inr (.inr 2)), some (.inl (j))] [] (cm_hp C X) = some (.inl none, cm_hp C' X) ∧ cm_x 178 6 [some (.inr (.inr 613)), some (.inl (if C 3 4 = 2 then 1 else 0)), none, none] [] (cm_hp E Y) = some (.inl none, cm_hp E' Y) ∧ pF C C' ∧ pE E E' ∧ ((pS C' E' len ∧ pOk C' E' ∧ pD C' E' ∧ C 3 3 ≤ C' 3 3) ∨ pFt C' E') := by
  intro k
  induction k with
  | zero =>
    intro C E j h1 hs ho hd j0 j1
    have hb := hd.2.1.2.1
    by_cases h2 : C 3 4 = 2
    · rw [if_pos h2]
      obtain ⟨C', E', a1, a2, a3, ⟨-, -, b3, -, b5, -⟩ | ⟨b1, b2⟩⟩ := bd_step hs ho hd (m := 1) (by omega) X Y
      · have := b3.2.1.2.1
        omega
      · refine ⟨C', E', ?_, b2, a2, a3, Or.inr b1⟩
        rw [sg_X5_readBad_13, if_neg (by omega), if_pos ho.1, if_pos h2, a1, aft_n, sg_X5_readBad_41, sg_X5_readBad_13]
        by_cases h12 : 12 < cm_wr (j + 1)
        · rw [if_pos h12]
        · rw [if_neg h12, if_neg b1.1]
    · refine ⟨C, E, ?_, ?_, pF_rf, pE_rf, Or.inl ⟨hs, ho, hd, Int.le_refl _⟩⟩
      · rw [sg_X5_readBad_13, if_neg (by omega), if_pos ho.1, if_neg h2]
      · rw [if_neg h2, sg_X9_readBad_6, if_pos rfl]
  | succ k ih =>
    intro C E j h1 hs ho hd j0 j1
    have hb := hd.2.1.2.1
    by_cases h2 : C 3 4 = 2
    · rw [if_pos h2]
      obtain ⟨C1, E1, a1, a2, a3, ⟨b1, b2, b3, b4, b5, b6⟩ | ⟨b1, b2⟩⟩ := bd_step hs ho hd (m := 1) (by omega) X Y
      · obtain ⟨C', E', c1, c2, c3, c4, c5⟩ := ih C1 E1 (j + 1) (by omega) b1 b2 b3 (by omega) (by omega)
        refine ⟨C', E', ?_, by rw [b6]; exact c2, pF_tr a2 c3, pE_tr a3 c4, c5.imp (fun z => ⟨z.1, z.2.1, z.2.2.1, by have := z.2.2.2; omega⟩) id⟩
        rw [sg_X5_readBad_13, if_neg (by omega), if_pos ho.1, if_pos h2, a1, aft_n, sg_X5_readBad_41, cm_wr_id (x := j + 1) (by omega) (by omega)]
        exact c1
      · refine ⟨C1, E1, ?_, b2, a2, a3, Or.inr b1⟩
        rw [sg_X5_readBad_13, if_neg (by omega), if_pos ho.1, if_pos h2, a1, aft_n, sg_X5_readBad_41, sg_X5_readBad_13]
        by_cases h12 : 12 < cm_wr (j + 1)
        · rw [if_pos h12]
        · rw [if_neg h12, if_neg b1.1]
    · refine ⟨C, E, ?_, ?_, pF_rf, pE_rf, Or.inl ⟨hs, ho, hd, Int.le_refl _⟩⟩
      · rw [sg_X5_readBad_13, if_neg (by omega), if_pos ho.1, if_neg h2]
      · rw [if_neg h2, sg_X9_readBad_6, if_pos rfl]
theorem rd_bad (hs : pS C E len) (ho : pOk C E) (hd : pD C E) (hk : C 3 4 ≠ 0) (X Y : cm_X) : ∃ C' E', cm_x 56 0 [some (.inr (.inr 2)), none] [] (cm_hp C X) = some (.inl none, cm_hp C' X) ∧ cm_x 178 0 [some (.inr (.inr 613)), none, none, none] [] (cm_hp E Y) = some (.inl none, cm_hp E' Y) ∧ pF C C' ∧ pE E E' ∧ ((pS C' E' len ∧ pOk C' E' ∧ pD C' E' ∧ C 3 3 < C' 3 3) ∨ pFt C' E') := by
  have hs' := hs
  obtain ⟨hx, t1, t2, t3, t4, t5, t6, t7, t8⟩ := hs
  obtain ⟨C1, E1, b1, b2, b3, b4, b5, b6⟩ := ev_tok hx t1 (by omega) (by omega) X Y
  have h1 := t6 hk
  have hs1 : pS C1 E1 len := ⟨txR_f hx (pF_t b5) (pE_t b6), b3⟩
  have ho1 := pOk_t ho b5 b6
  have hd1 := pD_t hd b5 b6
  obtain ⟨C2, E2, a1, a2, a3, ⟨c1, c2, c3, c4, c5, c6⟩ | ⟨c1, c2⟩⟩ := bd_step hs1 ho1 hd1 (m := 1) (by omega) X Y
  · have hb := hd1.2.1.2.1
    obtain ⟨C', E', d1, d2, d3, d4, d5⟩ := bd_loop (len := len) X Y 12 C2 E2 0 (by omega) c1 c2 c3 (by omega) (by omega)
    refine ⟨C', E', ?_, ?_, pF_tr (pF_t b5) (pF_tr a2 d3), pE_tr (pE_t b6) (pE_tr a3 d4), d5.imp (fun z => ⟨z.1, z.2.1, z.2.2.1, by have := z.2.2.2; omega⟩) id⟩
    · rw [sg_X5_readBad_0, b1, aft_n, sg_X5_readBad_7, a1, aft_n, sg_X5_readBad_11, d1]
    · rw [sg_X9_readBad_0, b2, aft_n, sg_X9_readBad_4, c6, d2]
  · refine ⟨C2, E2, ?_, ?_, pF_tr (pF_t b5) a2, pE_tr (pE_t b6) a3, Or.inr c1⟩
    · rw [sg_X5_readBad_0, b1, aft_n, sg_X5_readBad_7, a1, aft_n, sg_X5_readBad_11, sg_X5_readBad_13, if_neg (by omega), if_neg c1.1]
    · rw [sg_X9_readBad_0, b2, aft_n, sg_X9_readBad_4, c2]
