/-! one block of a writing: the class, the rest -/
variable {D E : Nat → Int → Int} {X : cm_X} {K B K' B' A : Int → Int} {h pk c t : Int} {S : Nat → Int → Int} {r : Int → Int}
noncomputable abbrev wD (D : Nat → Int → Int) (k l : Int) : Nat → Int → Int := cm_up (cm_up D 11 (D 15 9) (wK D (D 15 9) k)) 12 (D 15 9) (wL D (D 15 9) k l)
theorem wD_l {k l : Int} (l0 : 0 ≤ l) (l1 : l ≤ 15) : (wD D k l) 12 ((wD D k l) 15 9) ≤ 15 := by
  show (cm_u1 (D 12) (D 15 9) (wL D (D 15 9) k l)) (D 15 9) ≤ 15
  rw [u1_eq]
  have := (wL_b (D := D) (b := D 15 9) (k := k) l0).2
  omega
theorem ev_wb5 (hz : zOk D) (hf : fOk (D 10) (D 614 4) (D 615)) (b0 : 0 ≤ D 15 9) (b1 : D 15 9 < D 9 0) {x : Int} (x0 : 0 ≤ x) (x1 : x < D 22 3) (x2 : x < 126) (k5 : D 23 x = 5) : ∃ F, cm_x 11 0 [some (.inr (.inr 22)), some (.inr (.inr 15)), some (.inr (.inr 9)), some (.inl (x)), none] [] (cm_hp D X) = some (.inl none, cm_hp F X) ∧ wbQ D F 5 12 (fun i => if D 16 i = 0 then -1 else D 16 i) := by
  have z1 := hz.1
  obtain ⟨F, a, b⟩ := ev_wDir (D := wD D 5 12) (X := X) z1.2 b0 b1 (wD_l (by omega) (by omega))
  have e15 : F 15 9 = D 15 9 := by rw [b.2 15 (by omega)]; rfl
  refine ⟨cm_up F 15 9 (D 15 9 + 1), ?_, wb_fin (m := 12) b (wL_b (by omega)).2⟩
  rw [sg_X1_writeBlock_0, if_neg (by omega), if_pos x1, ck_t (by omega), if_neg (by omega), if_neg (by omega), if_pos k5, sg_X1_writeDirectory_0, ev_write hz hf b0 b1, aft_n, sg_X1_writeDirectory_11, a, aft_n, sg_X1_writeBlock_113, sg_X1_writeBlock_135, e15, cm_wr_id (by omega) (by omega)]
theorem ev_wb6 (hz : zOk D) (hf : fOk (D 10) (D 614 4) (D 615)) (b0 : 0 ≤ D 15 9) (b1 : D 15 9 < D 9 0) {x : Int} (x0 : 0 ≤ x) (x1 : x < D 22 3) (x2 : x < 126) (k6 : D 23 x = 6) : ∃ F, cm_x 11 0 [some (.inr (.inr 22)), some (.inr (.inr 15)), some (.inr (.inr 9)), some (.inl (x)), none] [] (cm_hp D X) = some (.inl none, cm_hp F X) ∧ wbQ D F 6 15 (mpT D) := by
  have z1 := hz.1
  obtain ⟨F, a, b⟩ := ev_wMap (D := wD D 6 15) (X := X) z1.2 b0 b1 (wD_l (by omega) (by omega))
  have e15 : F 15 9 = D 15 9 := by rw [b.2 15 (by omega)]; rfl
  refine ⟨cm_up F 15 9 (D 15 9 + 1), ?_, wb_fin (m := 15) b (wL_b (by omega)).2⟩
  rw [sg_X1_writeBlock_0, if_neg (by omega), if_pos x1, ck_t (by omega), if_neg (by omega), if_neg (by omega), if_neg (by omega), if_pos k6, sg_X1_writeMap_0, ev_write hz hf b0 b1, aft_n, sg_X1_writeMap_12, a, aft_n, sg_X1_writeBlock_121, sg_X1_writeBlock_135, e15, cm_wr_id (by omega) (by omega)]
theorem ev_wb4 (hz : zOk D) (hf : fOk (D 10) (D 614 4) (D 615)) (b0 : 0 ≤ D 15 9) (b1 : D 15 9 < D 9 0) {x : Int} (x0 : 0 ≤ x) (x1 : x < D 22 3) (x2 : x < 126) (k4 : D 23 x = 4) (n0 : 0 ≤ D 24 x) (n1 : D 24 x < 12) (l0 : 0 ≤ D 17 (D 24 x)) (l1 : D 17 (D 24 x) ≤ 8) : ∃ F, cm_x 11 0 [some (.inr (.inr 22)), some (.inr (.inr 15)), some (.inr (.inr 9)), some (.inl (x)), none] [] (cm_hp D X) = some (.inl none, cm_hp F X) ∧ wbQ D F 4 (D 17 (D 24 x)) (fun i => D 19 (D 24 x * 8 + i)) := by
  have z1 := hz.1
  obtain ⟨F, a, b⟩ := ev_wEnt (D := wD D 4 (D 17 (D 24 x))) (X := X) n0 n1 z1.2 b0 b1 (wD_l l0 (by omega)) l0 l1
  have e15 : F 15 9 = D 15 9 := by rw [b.2 15 (by omega)]; rfl
  refine ⟨cm_up F 15 9 (D 15 9 + 1), ?_, wb_fin b (wL_b l0).2⟩
  rw [sg_X1_writeBlock_0, if_neg (by omega), if_pos x1, ck_t (by omega), if_neg (by omega), if_pos k4, ck_t (by omega), sg_X1_writeEntry_0, ck_t (by omega), ev_write hz hf b0 b1, aft_n, sg_X1_writeEntry_15, a, aft_n, sg_X1_writeBlock_105, sg_X1_writeBlock_135, e15, cm_wr_id (by omega) (by omega)]
theorem ev_wb3 (hz : zOk D) (hf : fOk (D 10) (D 614 4) (D 615)) (b0 : 0 ≤ D 15 9) (b1 : D 15 9 < D 9 0) {x : Int} (x0 : 0 ≤ x) (x1 : x < D 22 3) (x2 : x < 126) (k3 : D 23 x = 3) (n0 : 0 ≤ D 24 x) (n1 : D 24 x < 12) (c0 : 0 ≤ D 25 x) (c1 : D 25 x < 8) : ∃ F, cm_x 11 0 [some (.inr (.inr 22)), some (.inr (.inr 15)), some (.inr (.inr 9)), some (.inl (x)), none] [] (cm_hp D X) = some (.inl none, cm_hp F X) ∧ wbQ D F 3 1 (fun _ => D 20 (D 24 x * 8 + D 25 x)) := by
  have z1 := hz.1
  obtain ⟨F, a, b⟩ := tld_s (D := wD D 3 1) (X := X) (b := D 15 9) (j := 0) (v := D 20 (D 24 x * 8 + D 25 x)) (g := fun _ => D 20 (D 24 x * 8 + D 25 x)) tld_0 z1.2 b0 b1 (by omega) (wD_l (by omega) (by omega)) rfl
  have e15 : F 15 9 = D 15 9 := by rw [b.2 15 (by omega)]; rfl
  have q24 : (cm_up (cm_up D 11 (D 15 9) (wK D (D 15 9) 3)) 12 (D 15 9) (wL D (D 15 9) 3 1)) 24 = D 24 := rfl
  have q25 : (cm_up (cm_up D 11 (D 15 9) (wK D (D 15 9) 3)) 12 (D 15 9) (wL D (D 15 9) 3 1)) 25 = D 25 := rfl
  have q15 : (cm_up (cm_up D 11 (D 15 9) (wK D (D 15 9) 3)) 12 (D 15 9) (wL D (D 15 9) 3 1)) 15 = D 15 := rfl
  have q20 : (cm_up (cm_up D 11 (D 15 9) (wK D (D 15 9) 3)) 12 (D 15 9) (wL D (D 15 9) 3 1)) 20 = D 20 := rfl
  refine ⟨cm_up F 15 9 (D 15 9 + 1), ?_, wb_fin (m := 0 + 1) b (wL_b (by omega)).2⟩
  rw [sg_X1_writeBlock_0, if_neg (by omega), if_pos x1, ck_t (by omega), if_pos k3, ev_write hz hf b0 b1, aft_n, sg_X1_writeBlock_66, ck_t (by omega), ck_t (by omega), sg_X6_numberOf_0, q24, q25, q15, q20, cm_wr_id (x := D 24 x * 8) (by omega) (by omega), cm_wr_id (x := D 24 x * 8 + D 25 x) (by omega) (by omega), ck_t (by omega), aft_v, sg_X1_writeBlock_88, a, aft_n, sg_X1_writeBlock_91, sg_X1_writeBlock_135, e15, cm_wr_id (by omega) (by omega)]
