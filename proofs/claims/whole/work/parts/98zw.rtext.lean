/-! reading: clauses, the text: both -/
variable {C C' D E E' F : Nat → Int → Int} {X Y : cm_X} {T : Int → Int} {len : Int}
def okP (C E C' E' : Nat → Int → Int) (len : Int) : Prop := pF C C' ∧ pE E E' ∧ ((pS C' E' len ∧ pOk C' E' ∧ pD C' E' ∧ C 3 3 < C' 3 3) ∨ pFt C' E')
/-- the sign at the end of a clause -/
theorem rd_tail {C1 E1 : Nat → Int → Int} (h : okP C E C1 E1 len) (X Y : cm_X) : ∃ C' E', cm_x 50 62 [some (.inr (.inr 2))] [] (cm_hp C1 X) = some (.inl none, cm_hp C' X) ∧ cm_x 180 53 [some (.inr (.inr 613))] [] (cm_hp E1 Y) = some (.inl none, cm_hp E' Y) ∧ okP C E C' E' len := by
  obtain ⟨hF, hE, ⟨hs, ho, hd, hlt⟩ | hf⟩ := h
  · have t4 : C1 3 4 = E1 613 12 := hs.2.2.2.2.1
    by_cases h3 : C1 3 4 = 3
    · obtain ⟨hx, t1, t2, t3, t4', t5, t6, t7, t8⟩ := hs
      obtain ⟨C2, E2, b1, b2, b3, b4, b5, b6⟩ := ev_tok hx t1 (by omega) (by omega) X Y
      refine ⟨C2, E2, ?_, ?_, pF_tr hF (pF_t b5), pE_tr hE (pE_t b6), Or.inl ⟨⟨txR_f hx (pF_t b5) (pE_t b6), b3⟩, pOk_t ho b5 b6, pD_t hd b5 b6, by omega⟩⟩
      · rw [sg_X5_readClause_62, if_pos ho.1, sg_X5_readSemicolon_0, if_pos h3, b1, aft_n, sg_X5_readSemicolon_18, sg_X5_readSemicolon_26, aft_n, sg_X5_readClause_73]
      · rw [sg_X9_readClause_53, if_pos ho.2, ← t4, if_pos h3, sg_X9_readClause_73, if_pos ho.2, b2, aft_n, sg_X9_readClause_84]
    · have q1 : ¬ (fE E1 1) 613 16 = 0 := by show ¬ (1 : Int) = 0; omega
      refine ⟨fC C1 1, fE E1 1, ?_, ?_, pF_tr hF pF_c, pE_tr hE pE_c, Or.inr (pFt_c hs (by omega))⟩
      · rw [sg_X5_readClause_62, if_pos ho.1, sg_X5_readSemicolon_0, if_neg h3, sg_X5_fail_0, aft_n, sg_X5_readSemicolon_26, aft_n, sg_X5_readClause_73]
      · rw [sg_X9_readClause_53, if_pos ho.2, ← t4, if_neg h3, sg_X9_wrong_0, if_pos ho.2, aft_n, sg_X9_readClause_73, if_neg q1, sg_X9_readClause_84]
  · have q1 : ¬ E1 613 16 = 0 := by rw [hf.2.1]; exact hf.1
    refine ⟨C1, E1, ?_, ?_, hF, hE, Or.inr hf⟩
    · rw [sg_X5_readClause_62, if_neg hf.1, sg_X5_readClause_73]
    · rw [sg_X9_readClause_53, if_neg q1, sg_X9_readClause_73, if_neg q1, sg_X9_readClause_84]
theorem rd_clause (hs : pS C E len) (ho : pOk C E) (hd : pD C E) (hk : C 3 4 ≠ 0) (X Y : cm_X) : ∃ C' E', cm_x 50 0 [some (.inr (.inr 2))] [] (cm_hp C X) = some (.inl none, cm_hp C' X) ∧ cm_x 180 0 [some (.inr (.inr 613))] [] (cm_hp E Y) = some (.inl none, cm_hp E' Y) ∧ okP C E C' E' len := by
  rw [sg_X5_readClause_0, ev_w0 hs X, aft_v, sg_X5_readClause_9, sg_X9_readClause_0, ev_m0 hs ho Y, aft_v, sg_X9_readClause_6]
  by_cases h0 : wD4 C 100 105 115 99
  · obtain ⟨C1, E1, a1, a2, a3⟩ := rd_disc hs ho hd hk X Y
    obtain ⟨C', E', b1, b2, b3⟩ := rd_tail (C := C) (E := E) a3 X Y
    refine ⟨C', E', ?_, ?_, b3⟩
    · rw [tv_t h0, if_neg (by omega), a1, aft_n, sg_X5_readClause_16, b1]
    · rw [tv_t h0, if_neg (by omega), a2, aft_n, sg_X9_readClause_13, b2]
  · rw [tv_f h0, if_pos rfl, if_pos rfl, ev_w1 hs X, aft_v, sg_X5_readClause_28, ev_m1 hs ho Y, aft_v, sg_X9_readClause_22]
    by_cases h1 : wD3 C 98 97 100
    · obtain ⟨C1, E1, a1, a2, a3⟩ := rd_bad hs ho hd hk X Y
      obtain ⟨C', E', b1, b2, b3⟩ := rd_tail (C := C) (E := E) a3 X Y
      refine ⟨C', E', ?_, ?_, b3⟩
      · rw [tv_t h1, if_neg (by omega), a1, aft_n, sg_X5_readClause_35, b1]
      · rw [tv_t h1, if_neg (by omega), a2, aft_n, sg_X9_readClause_29, b2]
    · rw [tv_f h1, if_pos rfl, if_pos rfl, ev_w2 hs X, aft_v, sg_X5_readClause_47, ev_m2 hs ho Y, aft_v, sg_X9_readClause_38]
      by_cases h2 : wD4 C 102 105 108 101
      · obtain ⟨C1, E1, a1, a2, a3⟩ := rd_file hs ho hd hk X Y
        obtain ⟨C', E', b1, b2, b3⟩ := rd_tail (C := C) (E := E) a3 X Y
        refine ⟨C', E', ?_, ?_, b3⟩
        · rw [tv_t h2, if_neg (by omega), a1, aft_n, sg_X5_readClause_54, b1]
        · rw [tv_t h2, if_neg (by omega), a2, aft_n, sg_X9_readClause_45, b2]
      · have hf : okP C E (fC C 1) (fE E 1) len := ⟨pF_c, pE_c, Or.inr (pFt_c hs (by omega))⟩
        obtain ⟨C', E', b1, b2, b3⟩ := rd_tail hf X Y
        refine ⟨C', E', ?_, ?_, b3⟩
        · rw [tv_f h2, if_pos rfl, sg_X5_fail_0, aft_n, b1]
        · rw [tv_f h2, if_pos rfl, sg_X9_wrong_0, if_pos ho.2, aft_n, b2]
/-- clause by clause, to the end or to a fault -/
theorem rd_loop {n : Int} (hn : n = len) (X Y : cm_X) : ∀ (k : Nat) (C E : Nat → Int → Int) (j : Int), len - C 3 3 ≤ k → pS C E len → pOk C E → pD C E → 0 ≤ j → j ≤ C 3 3 → ∃ C' E', cm_x 48 15 [some (.inr (.inr 2)), some (.inr (.inr 1)), some (.inl (n)), some (.inl (j))] [] (cm_hp C X) = some (.inl none, cm_hp C' X) ∧ cm_x 181 111 [some (.inr (.inr 613)), some (.inl (n)), none] [] (cm_hp E Y) = cm_x 181 111 [some (.inr (.inr 613)), some (.inl (n)), none] [] (cm_hp E' Y) ∧ pF C C' ∧ pE E E' ∧ ((pOk C' E' ∧ pD C' E' ∧ E' 613 12 = 0) ∨ pFt C' E') := by
  intro k
  induction k with
  | zero =>
    intro C E j h1 hs ho hd j0 j1
    have t5 := hs.2.2.2.2.2.1
    have hk : C 3 4 = 0 := by
      by_cases z : C 3 4 = 0
      · exact z
      · have := hs.2.2.2.2.2.2.1 z
        omega
    refine ⟨C, E, ?_, rfl, pF_rf, pE_rf, Or.inl ⟨ho, hd, by rw [← hs.2.2.2.2.1]; exact hk⟩⟩
    rw [sg_X5_readText_15, if_neg (by omega), if_pos ho.1, if_pos hk]
  | succ k ih =>
    intro C E j h1 hs ho hd j0 j1
    have t5 := hs.2.2.2.2.2.1
    have hl := hs.1.2.2.1
    by_cases hk : C 3 4 = 0
    · refine ⟨C, E, ?_, rfl, pF_rf, pE_rf, Or.inl ⟨ho, hd, by rw [← hs.2.2.2.2.1]; exact hk⟩⟩
      rw [sg_X5_readText_15, if_neg (by omega), if_pos ho.1, if_pos hk]
    · obtain ⟨C1, E1, a1, a2, a3, a4, a5⟩ := rd_clause hs ho hd hk X Y
      have hk' : ¬ E 613 12 = 0 := by rw [← hs.2.2.2.2.1]; exact hk
      have md : cm_x 181 111 [some (.inr (.inr 613)), some (.inl (n)), none] [] (cm_hp E Y) = cm_x 181 111 [some (.inr (.inr 613)), some (.inl (n)), none] [] (cm_hp E1 Y) := by
        rw [sg_X9_disc_111 E, if_pos ho.2, if_neg hk', a2, aft_n, sg_X9_disc_129]
      have cl : cm_x 48 15 [some (.inr (.inr 2)), some (.inr (.inr 1)), some (.inl (n)), some (.inl (j))] [] (cm_hp C X) = cm_x 48 15 [some (.inr (.inr 2)), some (.inr (.inr 1)), some (.inl (n)), some (.inl (j + 1))] [] (cm_hp C1 X) := by
        rw [sg_X5_readText_15 C, if_neg (by omega), if_pos ho.1, if_neg hk, a1, aft_n, sg_X5_readText_41, cm_wr_id (x := j + 1) (by omega) (by omega)]
      rcases a5 with ⟨b1, b2, b3, b4⟩ | hf
      · obtain ⟨C', E', c1, c2, c3, c4, c5⟩ := ih C1 E1 (j + 1) (by omega) b1 b2 b3 (by omega) (by omega)
        exact ⟨C', E', by rw [cl, c1], by rw [md, c2], pF_tr a3 c3, pE_tr a4 c4, c5⟩
      · refine ⟨C1, E1, ?_, md, a3, a4, Or.inr hf⟩
        rw [cl, sg_X5_readText_15]
        by_cases hj : n < j + 1
        · rw [if_pos hj]
        · rw [if_neg hj, if_neg hf.1]
/-- all is forgotten -/
theorem ev_forget (X : cm_X) : ∃ g, cm_x 49 0 [some (.inr (.inr 2)), none] [] (cm_hp C X) = some (.inl none, cm_hp (cm_ua (cm_ua C 5 g) 2 (cm_u1 (cm_u1 (cm_u1 (cm_u1 (cm_u1 (cm_u1 (cm_u1 (cm_u1 (cm_u1 (C 2) 1 0) 2 (-1)) 3 0) 4 200) 5 8) 6 1) 7 2) 9 0) 13 0)) X) ∧ ∀ b, 0 ≤ b → b < 400 → g b = 0 := by
  generalize hC1 : cm_up (cm_up (cm_up (cm_up (cm_up (cm_up (cm_up C 2 1 0) 2 2 (-1)) 2 3 0) 2 4 200) 2 5 8) 2 6 1) 2 7 2 = C1
  obtain ⟨g, L, P⟩ := lp_inv (X := fun j g => cm_x 49 40 [some (.inr (.inr 2)), some (.inl (j))] [] (cm_hp (cm_ua C1 5 g) X)) (P := fun j g => ∀ b, 0 ≤ b → b < j → g b = 0) (lo := 0) (hi := 400) (fun j g j0 j1 hP => by
    refine ⟨cm_u1 g j 0, ?_, fun b b0 b1 => ?_⟩
    · show cm_x 49 40 [some (.inr (.inr 2)), some (.inl (j))] [] (cm_hp (cm_ua C1 5 g) X) = cm_x 49 40 [some (.inr (.inr 2)), some (.inl (j + 1))] [] (cm_hp (cm_ua C1 5 (cm_u1 g j 0)) X)
      rw [sg_X5_forgetAll_40, if_pos j1, ck_t (by omega), up_to_ua, ua_ua, ua_same, cm_wr_id (by omega) (by omega)]
    · by_cases hb : b = j
      · rw [hb, u1_eq]
      · rw [u1_ne hb]; exact hP b b0 (by omega)) (C1 5) (by omega) (fun b b0 b1 => by omega)
  have L : cm_x 49 40 [some (.inr (.inr 2)), some (.inl (0))] [] (cm_hp (cm_ua C1 5 (C1 5)) X) = cm_x 49 40 [some (.inr (.inr 2)), some (.inl (400))] [] (cm_hp (cm_ua C1 5 g) X) := L
  rw [ua_id] at L
  refine ⟨g, ?_, P⟩
  rw [sg_X5_forgetAll_0, hC1, L, sg_X5_forgetAll_40, if_neg (by omega)]
  have e : cm_up (cm_up (cm_ua C1 5 g) 2 9 0) 2 13 0 = cm_ua (cm_ua C 5 g) 2 (cm_u1 (cm_u1 (cm_u1 (cm_u1 (cm_u1 (cm_u1 (cm_u1 (cm_u1 (cm_u1 (C 2) 1 0) 2 (-1)) 3 0) 4 200) 5 8) 6 1) 7 2) 9 0) 13 0) := by
    rw [← hC1]
    funext x
    by_cases h2 : x = 2
    · rw [h2, ua_same]; rfl
    · rw [up_row h2, up_row h2, ua_row h2]
      by_cases h5 : x = 5
      · rw [h5, ua_same, ua_same]
      · rw [ua_row h5, ua_row h5, up_row h2, up_row h2, up_row h2, up_row h2, up_row h2, up_row h2, up_row h2]
  rw [e]
