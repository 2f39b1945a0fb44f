/-! the model lays nothing, with 633 cells -/
variable {E : Nat → Int → Int} {X : cm_X}
theorem sC_X9_layNothing_f_0 (D : Nat → Int → Int) (X : cm_X) : cm_x 166 0 [some (.inr (.inr 617))] [] (cm_hC D X) = cm_aft 166 1 4 [some (.inr (.inr 617))] [] (cm_x 165 0 [some (.inr (.inr 617)), none] [] (cm_hC D X)) := (cm_un_eq [4] 166 3 0 _ _ _).symm.trans rfl
theorem sC_X9_layNothing_f_4 (D : Nat → Int → Int) (X : cm_X) : cm_x 166 4 [some (.inr (.inr 617))] [] (cm_hC D X) = some (.inl none, (cm_hC (cm_up (cm_up (cm_up (cm_up D 617 242 (-1)) 617 243 0) 617 244 0) 617 245 0) X)) := (cm_un_eq [4] 166 18 4 _ _ _).symm.trans rfl
theorem sC_X9_noFiles_f_0 (D : Nat → Int → Int) (X : cm_X) : cm_x 165 0 [some (.inr (.inr 617)), none] [] (cm_hC D X) = cm_x 165 2 [some (.inr (.inr 617)), some (.inl 0)] [] (cm_hC D X) := (cm_un_eq [2, 36, 65] 165 4 0 _ _ _).symm.trans rfl
theorem sC_X9_noFiles_f_2 (D : Nat → Int → Int) (X : cm_X) (x1 : Int) : cm_x 165 2 [some (.inr (.inr 617)), some (.inl x1)] [] (cm_hC D X) = (if x1 < 12 then cm_ck (0 ≤ (cm_wr (0 + x1)) ∧ (cm_wr (0 + x1)) < 246) (cm_ck (0 ≤ (cm_wr (12 + x1)) ∧ (cm_wr (12 + x1)) < 246) (cm_ck (0 ≤ (cm_wr (24 + x1)) ∧ (cm_wr (24 + x1)) < 246) (cm_x 165 2 [some (.inr (.inr 617)), some (.inl (cm_wr (x1 + 1)))] [] (cm_hC (cm_up (cm_up (cm_up D 617 (cm_wr (0 + x1)) (-1)) 617 (cm_wr (12 + x1)) 0) 617 (cm_wr (24 + x1)) 0) X)))) else cm_x 165 36 [some (.inr (.inr 617)), some (.inl 0)] [] (cm_hC D X)) := (cm_un_eq [2, 36, 65] 165 25 2 _ _ _).symm.trans rfl
theorem sC_X9_noFiles_f_36 (D : Nat → Int → Int) (X : cm_X) (x1 : Int) : cm_x 165 36 [some (.inr (.inr 617)), some (.inl x1)] [] (cm_hC D X) = (if x1 < 96 then cm_ck (0 ≤ (cm_wr (36 + x1)) ∧ (cm_wr (36 + x1)) < 246) (cm_ck (0 ≤ (cm_wr (132 + x1)) ∧ (cm_wr (132 + x1)) < 246) (cm_x 165 36 [some (.inr (.inr 617)), some (.inl (cm_wr (x1 + 1)))] [] (cm_hC (cm_up (cm_up D 617 (cm_wr (36 + x1)) (-1)) 617 (cm_wr (132 + x1)) 0) X))) else cm_x 165 65 [some (.inr (.inr 617)), some (.inl 0)] [] (cm_hC D X)) := (cm_un_eq [2, 36, 65] 165 19 36 _ _ _).symm.trans rfl
theorem sC_X9_noFiles_f_65 (D : Nat → Int → Int) (X : cm_X) (x1 : Int) : cm_x 165 65 [some (.inr (.inr 617)), some (.inl x1)] [] (cm_hC D X) = (if x1 < 13 then cm_ck (0 ≤ (cm_wr (228 + x1)) ∧ (cm_wr (228 + x1)) < 246) (cm_x 165 65 [some (.inr (.inr 617)), some (.inl (cm_wr (x1 + 1)))] [] (cm_hC (cm_up D 617 (cm_wr (228 + x1)) (-1)) X)) else some (.inl none, (cm_hC (cm_up D 617 241 0) X))) := (cm_un_eq [2, 36, 65] 165 13 65 _ _ _).symm.trans rfl
theorem ev_layC : ∃ f, cm_x 166 0 [some (.inr (.inr 617))] [] (cm_hC E X) = some (.inl none, cm_hC (cm_ua E 617 f) X) ∧ nfF f := by
  obtain ⟨f1, L1, P1⟩ := lp_inv (X := fun i g => cm_x 165 2 [some (.inr (.inr 617)), some (.inl (i))] [] (cm_hC (cm_ua E 617 g) X)) (P := fun i g => (∀ n, 0 ≤ n → n < i → g n = -1 ∧ g (12 + n) = 0 ∧ g (24 + n) = 0)) (lo := 0) (hi := 12) (fun i g i0 i1 hP => by
    refine ⟨cm_u1 (cm_u1 (cm_u1 g i (-1)) (12 + i) 0) (24 + i) 0, ?_, fun n n0 n1 => ?_⟩
    · show cm_x 165 2 [some (.inr (.inr 617)), some (.inl (i))] [] (cm_hC (cm_ua E 617 g) X) = cm_x 165 2 [some (.inr (.inr 617)), some (.inl (i + 1))] [] (cm_hC (cm_ua E 617 (cm_u1 (cm_u1 (cm_u1 g i (-1)) (12 + i) 0) (24 + i) 0)) X)
      have w0 : cm_wr (0 + i) = i := by rw [Int.zero_add]; exact cm_wr_id (by omega) (by omega)
      rw [sC_X9_noFiles_f_2, if_pos i1, w0]
      simp (disch := omega) only [cm_wr_id, ck_t]
      simp only [up_to_ua, ua_ua, ua_same]
    · by_cases hn : n = i
      · subst hn
        simp (disch := omega) only [u1_ne, u1_eq]
        exact ⟨trivial, trivial, trivial⟩
      · simp (disch := omega) only [u1_ne]
        exact hP n n0 (by omega)) (E 617) (by omega) (fun n n0 n1 => by omega)
  obtain ⟨f2, L2, P2, Q2⟩ := lp_inv (X := fun i g => cm_x 165 36 [some (.inr (.inr 617)), some (.inl (i))] [] (cm_hC (cm_ua E 617 g) X)) (P := fun i g => (∀ n, 0 ≤ n → n < 12 → g n = -1 ∧ g (12 + n) = 0 ∧ g (24 + n) = 0) ∧ ∀ y, 36 ≤ y → y < 36 + i → g y = -1) (lo := 0) (hi := 96) (fun i g i0 i1 hP => by
    refine ⟨cm_u1 (cm_u1 g (36 + i) (-1)) (132 + i) 0, ?_, fun n n0 n1 => ?_, fun y y0 y1 => ?_⟩
    · show cm_x 165 36 [some (.inr (.inr 617)), some (.inl (i))] [] (cm_hC (cm_ua E 617 g) X) = cm_x 165 36 [some (.inr (.inr 617)), some (.inl (i + 1))] [] (cm_hC (cm_ua E 617 (cm_u1 (cm_u1 g (36 + i) (-1)) (132 + i) 0)) X)
      rw [sC_X9_noFiles_f_36, if_pos i1]
      simp (disch := omega) only [cm_wr_id, ck_t]
      simp only [up_to_ua, ua_ua, ua_same]
    · simp (disch := omega) only [u1_ne]
      exact hP.1 n n0 n1
    · rw [u1_ne (by omega)]
      by_cases hy : y = 36 + i
      · rw [hy, u1_eq]
      · rw [u1_ne hy]; exact hP.2 y y0 (by omega)) f1 (by omega) ⟨P1, fun y y0 y1 => by omega⟩
  obtain ⟨f3, L3, P3, Q3, R3⟩ := lp_inv (X := fun i g => cm_x 165 65 [some (.inr (.inr 617)), some (.inl (i))] [] (cm_hC (cm_ua E 617 g) X)) (P := fun i g => (∀ n, 0 ≤ n → n < 12 → g n = -1 ∧ g (12 + n) = 0 ∧ g (24 + n) = 0) ∧ (∀ y, 36 ≤ y → y < 132 → g y = -1) ∧ ∀ v, 0 ≤ v → v < i → g (228 + v) = -1) (lo := 0) (hi := 13) (fun i g i0 i1 hP => by
    refine ⟨cm_u1 g (228 + i) (-1), ?_, fun n n0 n1 => ?_, fun y y0 y1 => ?_, fun v v0 v1 => ?_⟩
    · show cm_x 165 65 [some (.inr (.inr 617)), some (.inl (i))] [] (cm_hC (cm_ua E 617 g) X) = cm_x 165 65 [some (.inr (.inr 617)), some (.inl (i + 1))] [] (cm_hC (cm_ua E 617 (cm_u1 g (228 + i) (-1))) X)
      rw [sC_X9_noFiles_f_65, if_pos i1]
      simp (disch := omega) only [cm_wr_id, ck_t]
      simp only [up_to_ua, ua_ua, ua_same]
    · simp (disch := omega) only [u1_ne]
      exact hP.1 n n0 n1
    · rw [u1_ne (by omega)]; exact hP.2.1 y y0 y1
    · by_cases hv : v = i
      · rw [hv, u1_eq]
      · rw [u1_ne (by omega)]; exact hP.2.2 v v0 (by omega)) f2 (by omega) ⟨P2, Q2, fun v v0 v1 => by omega⟩
  refine ⟨cm_u1 (cm_u1 (cm_u1 (cm_u1 (cm_u1 f3 241 0) 242 (-1)) 243 0) 244 0) 245 0, ?_, fun n n0 n1 => ?_, fun y y0 y1 => ?_, fun v v0 v1 => ?_, rfl, rfl, rfl, rfl, rfl⟩
  · have L1 : cm_x 165 2 [some (.inr (.inr 617)), some (.inl (0))] [] (cm_hC E X) = cm_x 165 2 [some (.inr (.inr 617)), some (.inl (12))] [] (cm_hC (cm_ua E 617 f1) X) := by
      have := L1
      rw [ua_id] at this
      exact this
    have L2 : cm_x 165 36 [some (.inr (.inr 617)), some (.inl (0))] [] (cm_hC (cm_ua E 617 f1) X) = cm_x 165 36 [some (.inr (.inr 617)), some (.inl (96))] [] (cm_hC (cm_ua E 617 f2) X) := L2
    have L3 : cm_x 165 65 [some (.inr (.inr 617)), some (.inl (0))] [] (cm_hC (cm_ua E 617 f2) X) = cm_x 165 65 [some (.inr (.inr 617)), some (.inl (13))] [] (cm_hC (cm_ua E 617 f3) X) := L3
    rw [sC_X9_layNothing_f_0, sC_X9_noFiles_f_0, L1, sC_X9_noFiles_f_2, if_neg (by omega), L2, sC_X9_noFiles_f_36, if_neg (by omega), L3, sC_X9_noFiles_f_65, if_neg (by omega), aft_n, sC_X9_layNothing_f_4]
    simp only [up_to_ua, ua_ua, ua_same]
  · simp (disch := omega) only [u1_ne]
    exact P3 n n0 n1
  · simp (disch := omega) only [u1_ne]
    exact Q3 y y0 (by omega)
  · simp (disch := omega) only [u1_ne]
    exact R3 v v0 v1
