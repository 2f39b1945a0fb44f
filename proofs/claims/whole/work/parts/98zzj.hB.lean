/-! the class reads nothing and begins, with 613 cells -/
variable {C D : Nat → Int → Int} {X : cm_X}
theorem sB_X7_advance_0 (D : Nat → Int → Int) (X : cm_X) : cm_x 96 0 [some (.inr (.inr 3))] [] (cm_hB D X) = cm_x 96 8 [some (.inr (.inr 3))] [] (cm_hB (cm_up D 3 3 (D 3 2)) X) := (cm_un_eq [8, 94, 122, 134] 96 6 0 _ _ _).symm.trans rfl
theorem sB_X7_advance_8 (D : Nat → Int → Int) (X : cm_X) : cm_x 96 8 [some (.inr (.inr 3))] [] (cm_hB D X) = (if (D 3 3) < (D 3 1) then cm_ck (0 ≤ (D 3 3) ∧ (D 3 3) < 700) ((if (D 1 (D 3 3)) = 32 then cm_x 96 8 [some (.inr (.inr 3))] [] (cm_hB (cm_up D 3 3 (cm_wr ((D 3 3) + 1))) X) else cm_ck (0 ≤ (D 3 3) ∧ (D 3 3) < 700) ((if (D 1 (D 3 3)) = 10 then cm_x 96 8 [some (.inr (.inr 3))] [] (cm_hB (cm_up D 3 3 (cm_wr ((D 3 3) + 1))) X) else (if (D 3 3) < (D 3 1) then cm_aft 96 91 94 [some (.inr (.inr 3))] [(.inr (.inr 3))] (cm_x 97 0 [some (.inr (.inr 3)), some (.inl 97), some (.inl 122), none] [] (cm_hB D X)) else some (.inl none, (cm_hB (cm_up (cm_up D 3 4 0) 3 2 (D 3 3)) X))))))) else (if (D 3 3) < (D 3 1) then cm_aft 96 91 94 [some (.inr (.inr 3))] [(.inr (.inr 3))] (cm_x 97 0 [some (.inr (.inr 3)), some (.inl 97), some (.inl 122), none] [] (cm_hB D X)) else some (.inl none, (cm_hB (cm_up (cm_up D 3 4 0) 3 2 (D 3 3)) X)))) := (cm_un_eq [8, 94, 122, 134] 96 33 8 _ _ _).symm.trans rfl
theorem sB_X5_readText_13 (D : Nat → Int → Int) (X : cm_X) (x2 : Int) : cm_x 48 13 [some (.inr (.inr 2)), some (.inr (.inr 1)), some (.inl x2), none] [] (cm_hB D X) = cm_x 48 15 [some (.inr (.inr 2)), some (.inr (.inr 1)), some (.inl x2), some (.inl 0)] [] (cm_hB D X) := (cm_un_eq [4, 13, 15, 41] 48 4 13 _ _ _).symm.trans rfl
theorem sB_X5_readText_15 (D : Nat → Int → Int) (X : cm_X) (x2 : Int) (x3 : Int) : cm_x 48 15 [some (.inr (.inr 2)), some (.inr (.inr 1)), some (.inl x2), some (.inl x3)] [] (cm_hB D X) = (if x2 < x3 then some (.inl none, (cm_hB D X)) else (if (D 2 1) = 0 then (if (D 3 4) = 0 then some (.inl none, (cm_hB D X)) else cm_aft 48 38 41 [some (.inr (.inr 2)), some (.inr (.inr 1)), some (.inl x2), some (.inl x3)] [] (cm_x 50 0 [some (.inr (.inr 2))] [] (cm_hB D X))) else some (.inl none, (cm_hB D X)))) := (cm_un_eq [4, 13, 15, 41] 48 13 15 _ _ _).symm.trans rfl
theorem sB_X8_beginAnew_0 (D : Nat → Int → Int) (X : cm_X) : cm_x 104 0 [some (.inr (.inr 0))] [] (cm_hB D X) = cm_aft 104 8 11 [some (.inr (.inr 0))] [] (cm_x 16 0 [some (.inr (.inr 9)), some (.inr (.inr 2)), none] [] (cm_hB D X)) := (cm_un_eq [11, 22, 29] 104 6 0 _ _ _).symm.trans rfl
theorem sB_X8_beginAnew_11 (D : Nat → Int → Int) (X : cm_X) : cm_x 104 11 [some (.inr (.inr 0))] [] (cm_hB D X) = cm_aft 104 19 22 [some (.inr (.inr 0))] [] (cm_x 63 0 [some (.inr (.inr 15)), some (.inr (.inr 2)), none, none, none] [] (cm_hB D X)) := (cm_un_eq [11, 22, 29] 104 6 11 _ _ _).symm.trans rfl
theorem sB_X8_beginAnew_22 (D : Nat → Int → Int) (X : cm_X) : cm_x 104 22 [some (.inr (.inr 0))] [] (cm_hB D X) = cm_aft 104 26 29 [some (.inr (.inr 0))] [] (cm_x 1 0 [some (.inr (.inr 26))] [] (cm_hB D X)) := (cm_un_eq [11, 22, 29] 104 4 22 _ _ _).symm.trans rfl
set_option maxRecDepth 8000 in
theorem sB_X8_beginAnew_29 (D : Nat → Int → Int) (X : cm_X) : cm_x 104 29 [some (.inr (.inr 0))] [] (cm_hB D X) = some (.inl none, (cm_hB (cm_up D 308 0 0) X)) := (cm_un_eq [11, 22, 29] 104 6 29 _ _ _).symm.trans rfl
theorem sB_X2_takeOver_0 (D : Nat → Int → Int) (X : cm_X) : cm_x 16 0 [some (.inr (.inr 9)), some (.inr (.inr 2)), none] [] (cm_hB D X) = cm_x 16 34 [some (.inr (.inr 9)), some (.inr (.inr 2)), some (.inl 0)] [] (cm_hB (cm_up (cm_up (cm_up (cm_up D 9 0 (D 2 4)) 9 1 (D 2 5)) 9 2 (D 2 6)) 9 3 (D 2 7)) X) := (cm_un_eq [34] 16 20 0 _ _ _).symm.trans rfl
theorem sB_X2_takeOver_34 (D : Nat → Int → Int) (X : cm_X) (x2 : Int) : cm_x 16 34 [some (.inr (.inr 9)), some (.inr (.inr 2)), some (.inl x2)] [] (cm_hB D X) = (if x2 < 400 then cm_ck (0 ≤ x2 ∧ x2 < 401) (cm_ck (0 ≤ x2 ∧ x2 < 400) ((if (D 5 x2) = 0 then cm_ck (0 ≤ (cm_wr (x2 + 1)) ∧ (cm_wr (x2 + 1)) < 401) (cm_x 16 34 [some (.inr (.inr 9)), some (.inr (.inr 2)), some (.inl (cm_wr (x2 + 1)))] [] (cm_hB (cm_up D 10 (cm_wr (x2 + 1)) (cm_wr ((D 10 x2) + 0))) X)) else cm_ck (0 ≤ (cm_wr (x2 + 1)) ∧ (cm_wr (x2 + 1)) < 401) (cm_x 16 34 [some (.inr (.inr 9)), some (.inr (.inr 2)), some (.inl (cm_wr (x2 + 1)))] [] (cm_hB (cm_up D 10 (cm_wr (x2 + 1)) (cm_wr ((D 10 x2) + 1))) X))))) else some (.inl none, (cm_hB D X))) := (cm_un_eq [34] 16 25 34 _ _ _).symm.trans rfl
theorem sB_X6_takeOver_0 (D : Nat → Int → Int) (X : cm_X) : cm_x 63 0 [some (.inr (.inr 15)), some (.inr (.inr 2)), none, none, none] [] (cm_hB D X) = cm_aft 63 1 4 [some (.inr (.inr 15)), some (.inr (.inr 2)), none, none, none] [] (cm_x 64 0 [some (.inr (.inr 15))] [] (cm_hB D X)) := (cm_un_eq [4, 42, 94, 125] 63 3 0 _ _ _).symm.trans rfl
theorem sB_X6_takeOver_4 (D : Nat → Int → Int) (X : cm_X) : cm_x 63 4 [some (.inr (.inr 15)), some (.inr (.inr 2)), none, none, none] [] (cm_hB D X) = (if 0 < (D 2 13) then cm_x 63 42 [some (.inr (.inr 15)), some (.inr (.inr 2)), some (.inl 0), none, none] [] (cm_hB (cm_up (cm_up (cm_up (cm_up (cm_up D 15 7 (-1)) 15 8 0) 15 9 0) 15 10 0) 15 6 1) X) else cm_x 63 42 [some (.inr (.inr 15)), some (.inr (.inr 2)), some (.inl 0), none, none] [] (cm_hB (cm_up (cm_up (cm_up (cm_up (cm_up D 15 7 (-1)) 15 8 0) 15 9 0) 15 10 0) 15 6 0) X)) := (cm_un_eq [4, 42, 94, 125] 63 23 4 _ _ _).symm.trans rfl
theorem sB_X6_takeOver_42 (D : Nat → Int → Int) (X : cm_X) (x2 : Int) : cm_x 63 42 [some (.inr (.inr 15)), some (.inr (.inr 2)), some (.inl x2), none, none] [] (cm_hB D X) = (if x2 < (D 2 13) then (if x2 < 12 then cm_ck (0 ≤ x2 ∧ x2 < 12) (cm_ck (0 ≤ (D 6 x2) ∧ (D 6 x2) < 12) (cm_ck (0 ≤ x2 ∧ x2 < 12) (cm_ck (0 ≤ (D 6 x2) ∧ (D 6 x2) < 12) (cm_ck (0 ≤ (D 6 x2) ∧ (D 6 x2) < 12) (cm_x 63 94 [some (.inr (.inr 15)), some (.inr (.inr 2)), some (.inl x2), some (.inl (D 6 x2)), some (.inl 0)] [] (cm_hB (cm_up (cm_up (cm_up D 16 (D 6 x2) (cm_wr (x2 + 1))) 17 (D 6 x2) (D 7 x2)) 18 (D 6 x2) 1) X)))))) else some (.inl none, (cm_hB D X))) else some (.inl none, (cm_hB D X))) := (cm_un_eq [4, 42, 94, 125] 63 36 42 _ _ _).symm.trans rfl
theorem sB_X6_dropFiles_0 (D : Nat → Int → Int) (X : cm_X) : cm_x 64 0 [some (.inr (.inr 15))] [] (cm_hB D X) = cm_aft 64 5 8 [some (.inr (.inr 15))] [] (cm_x 294 0 [some (.inr (.inr 16)), some (.inl 0), none, none] [] (cm_hB D X)) := (cm_un_eq [8, 16, 24, 28] 64 5 0 _ _ _).symm.trans rfl
theorem sB_X6_dropFiles_8 (D : Nat → Int → Int) (X : cm_X) : cm_x 64 8 [some (.inr (.inr 15))] [] (cm_hB D X) = cm_aft 64 13 16 [some (.inr (.inr 15))] [] (cm_x 294 0 [some (.inr (.inr 17)), some (.inl 0), none, none] [] (cm_hB D X)) := (cm_un_eq [8, 16, 24, 28] 64 5 8 _ _ _).symm.trans rfl
theorem sB_X6_dropFiles_16 (D : Nat → Int → Int) (X : cm_X) : cm_x 64 16 [some (.inr (.inr 15))] [] (cm_hB D X) = cm_aft 64 21 24 [some (.inr (.inr 15))] [] (cm_x 294 0 [some (.inr (.inr 21)), some (.inl (-1)), none, none] [] (cm_hB D X)) := (cm_un_eq [8, 16, 24, 28] 64 5 16 _ _ _).symm.trans rfl
theorem sB_X6_dropFiles_24 (D : Nat → Int → Int) (X : cm_X) : cm_x 64 24 [some (.inr (.inr 15))] [] (cm_hB D X) = cm_aft 64 25 28 [some (.inr (.inr 15))] [] (cm_x 65 0 [some (.inr (.inr 15)), none] [] (cm_hB D X)) := (cm_un_eq [8, 16, 24, 28] 64 3 24 _ _ _).symm.trans rfl
theorem sB_X6_dropFiles_28 (D : Nat → Int → Int) (X : cm_X) : cm_x 64 28 [some (.inr (.inr 15))] [] (cm_hB D X) = some (.inl none, (cm_hB D X)) := (cm_un_eq [8, 16, 24, 28] 64 2 28 _ _ _).symm.trans rfl
theorem sB_X6_settleChanges_0 (D : Nat → Int → Int) (X : cm_X) : cm_x 65 0 [some (.inr (.inr 15)), none] [] (cm_hB D X) = cm_x 65 2 [some (.inr (.inr 15)), some (.inl 0)] [] (cm_hB D X) := (cm_un_eq [2] 65 4 0 _ _ _).symm.trans rfl
theorem sB_X6_settleChanges_2 (D : Nat → Int → Int) (X : cm_X) (x1 : Int) : cm_x 65 2 [some (.inr (.inr 15)), some (.inl x1)] [] (cm_hB D X) = (if x1 < 12 then cm_ck (0 ≤ x1 ∧ x1 < 12) (cm_x 65 2 [some (.inr (.inr 15)), some (.inl (cm_wr (x1 + 1)))] [] (cm_hB (cm_up D 18 x1 0) X)) else some (.inl none, (cm_hB (cm_up D 15 6 0) X))) := (cm_un_eq [2] 65 12 2 _ _ _).symm.trans rfl
theorem sB_X0_forget_0 (D : Nat → Int → Int) (X : cm_X) : cm_x 1 0 [some (.inr (.inr 26))] [] (cm_hB D X) = some (.inl none, (cm_hB (cm_up (cm_up D 26 1 0) 26 2 0) X)) := (cm_un_eq [] 1 8 0 _ _ _).symm.trans rfl
theorem sB_J7_fill_53178_v_0 (D : Nat → Int → Int) (X : cm_X) (x1 : Int) : cm_x 294 0 [some (.inr (.inr 16)), some (.inl x1), none, none] [] (cm_hB D X) = cm_x 294 5 [some (.inr (.inr 16)), some (.inl x1), some (.inl 0), some (.inl 12)] [] (cm_hB D X) := (cm_un_eq [5] 294 7 0 _ _ _).symm.trans rfl
theorem sB_J7_fill_53178_v_5 (D : Nat → Int → Int) (X : cm_X) (x1 : Int) (x2 : Int) (x3 : Int) : cm_x 294 5 [some (.inr (.inr 16)), some (.inl x1), some (.inl x2), some (.inl x3)] [] (cm_hB D X) = (if x2 < x3 then cm_ck (0 ≤ x2 ∧ x2 < 12) (cm_x 294 5 [some (.inr (.inr 16)), some (.inl x1), some (.inl (cm_wr (x2 + 1))), some (.inl x3)] [] (cm_hB (cm_up D 16 x2 x1) X)) else some (.inl none, (cm_hB D X))) := (cm_un_eq [5] 294 11 5 _ _ _).symm.trans rfl
theorem sB_J7_fill_53178_l_0 (D : Nat → Int → Int) (X : cm_X) (x1 : Int) : cm_x 294 0 [some (.inr (.inr 17)), some (.inl x1), none, none] [] (cm_hB D X) = cm_x 294 5 [some (.inr (.inr 17)), some (.inl x1), some (.inl 0), some (.inl 12)] [] (cm_hB D X) := (cm_un_eq [5] 294 7 0 _ _ _).symm.trans rfl
theorem sB_J7_fill_53178_l_5 (D : Nat → Int → Int) (X : cm_X) (x1 : Int) (x2 : Int) (x3 : Int) : cm_x 294 5 [some (.inr (.inr 17)), some (.inl x1), some (.inl x2), some (.inl x3)] [] (cm_hB D X) = (if x2 < x3 then cm_ck (0 ≤ x2 ∧ x2 < 12) (cm_x 294 5 [some (.inr (.inr 17)), some (.inl x1), some (.inl (cm_wr (x2 + 1))), some (.inl x3)] [] (cm_hB (cm_up D 17 x2 x1) X)) else some (.inl none, (cm_hB D X))) := (cm_un_eq [5] 294 11 5 _ _ _).symm.trans rfl
theorem sB_J7_fill_53178_w_0 (D : Nat → Int → Int) (X : cm_X) (x1 : Int) : cm_x 294 0 [some (.inr (.inr 21)), some (.inl x1), none, none] [] (cm_hB D X) = cm_x 294 5 [some (.inr (.inr 21)), some (.inl x1), some (.inl 0), some (.inl 13)] [] (cm_hB D X) := (cm_un_eq [5] 294 7 0 _ _ _).symm.trans rfl
theorem sB_J7_fill_53178_w_5 (D : Nat → Int → Int) (X : cm_X) (x1 : Int) (x2 : Int) (x3 : Int) : cm_x 294 5 [some (.inr (.inr 21)), some (.inl x1), some (.inl x2), some (.inl x3)] [] (cm_hB D X) = (if x2 < x3 then cm_ck (0 ≤ x2 ∧ x2 < 13) (cm_x 294 5 [some (.inr (.inr 21)), some (.inl x1), some (.inl (cm_wr (x2 + 1))), some (.inl x3)] [] (cm_hB (cm_up D 21 x2 x1) X)) else some (.inl none, (cm_hB D X))) := (cm_un_eq [5] 294 11 5 _ _ _).symm.trans rfl
theorem R6_begin : cm_up (cm_R6 4) 3 0 1 = cm_R6 1 := by
  funext a i
  unfold cm_up
  by_cases ha : a = 3
  · rw [if_pos ha, ha]
    show cm_u1 (cm_rF [4]) 0 1 i = cm_rF [1] i
    rw [show cm_u1 (cm_rF [4]) 0 1 = cm_rF [1] from u1_rF (f := 0) (fun n => by cases n <;> rfl)]
  · rw [if_neg ha]
    unfold cm_R6
    rw [if_neg ha, if_neg ha]
theorem sB_X7_begin_0 (D : Nat → Int → Int) (X : cm_X) (x2 : Int) : cm_x 95 0 [some (.inr (.inr 3)), some (.inr (.inr 1)), some (.inl (x2))] [] (cm_hA D X) = cm_aft 95 21 24 [some (.inr (.inr 3)), some (.inr (.inr 1)), some (.inl (x2))] [] (cm_x 96 0 [some (.inr (.inr 3))] [] (cm_hB (cm_up (cm_up D 3 1 (cm_mn x2 700)) 3 2 0) X)) := by
  have h : cm_x 95 0 [some (.inr (.inr 3)), some (.inr (.inr 1)), some (.inl (x2))] [] (cm_hA D X) = cm_aft 95 21 24 [some (.inr (.inr 3)), some (.inr (.inr 1)), some (.inl (x2))] [] (cm_x 96 0 [some (.inr (.inr 3))] [] (cm_Kk X.2.2.2 613, cm_up (cm_R6 4) 3 0 1, cm_up (cm_up D 3 1 (cm_mn x2 700)) 3 2 0, X.1, 613, X.2.1, X.2.2.1)) := (cm_un_eq [24] 95 15 0 _ _ _).symm.trans rfl
  rw [h, R6_begin]
  rfl
theorem sB_X7_begin_24 (D : Nat → Int → Int) (X : cm_X) (x2 : Int) : cm_x 95 24 [some (.inr (.inr 3)), some (.inr (.inr 1)), some (.inl (x2))] [] (cm_hB D X) = some (.inl none, cm_hB D X) := (cm_un_eq [24] 95 2 24 _ _ _).symm.trans rfl
theorem ev_fillvB (v : Int) : ∃ g, cm_x 294 0 [some (.inr (.inr 16)), some (.inl (v)), none, none] [] (cm_hB D X) = some (.inl none, cm_hB (cm_ua D 16 g) X) ∧ ∀ n, 0 ≤ n → n < 12 → g n = v := by
  obtain ⟨g, L, P⟩ := lp_inv (X := fun i g => cm_x 294 5 [some (.inr (.inr 16)), some (.inl (v)), some (.inl (i)), some (.inl (12))] [] (cm_hB (cm_ua D 16 g) X)) (P := fun i g => ∀ n, 0 ≤ n → n < i → g n = v) (lo := 0) (hi := 12) (fun i g i0 i1 hP => by
    refine ⟨cm_u1 g i v, ?_, fun n n0 n1 => ?_⟩
    · show cm_x 294 5 [some (.inr (.inr 16)), some (.inl (v)), some (.inl (i)), some (.inl (12))] [] (cm_hB (cm_ua D 16 g) X) = cm_x 294 5 [some (.inr (.inr 16)), some (.inl (v)), some (.inl (i + 1)), some (.inl (12))] [] (cm_hB (cm_ua D 16 (cm_u1 g i v)) X)
      rw [sB_J7_fill_53178_v_5, if_pos i1, ck_t (by omega), up_to_ua, ua_ua, ua_same, cm_wr_id (by omega) (by omega)]
    · by_cases hn : n = i
      · rw [hn, u1_eq]
      · rw [u1_ne hn]; exact hP n n0 (by omega)) (D 16) (by omega) (fun n n0 n1 => by omega)
  have L : cm_x 294 5 [some (.inr (.inr 16)), some (.inl (v)), some (.inl (0)), some (.inl (12))] [] (cm_hB D X) = cm_x 294 5 [some (.inr (.inr 16)), some (.inl (v)), some (.inl (12)), some (.inl (12))] [] (cm_hB (cm_ua D 16 g) X) := by
    have := L
    rw [ua_id] at this
    exact this
  refine ⟨g, ?_, P⟩
  rw [sB_J7_fill_53178_v_0, L, sB_J7_fill_53178_v_5, if_neg (by omega)]
theorem ev_filllB (v : Int) : ∃ g, cm_x 294 0 [some (.inr (.inr 17)), some (.inl (v)), none, none] [] (cm_hB D X) = some (.inl none, cm_hB (cm_ua D 17 g) X) ∧ ∀ n, 0 ≤ n → n < 12 → g n = v := by
  obtain ⟨g, L, P⟩ := lp_inv (X := fun i g => cm_x 294 5 [some (.inr (.inr 17)), some (.inl (v)), some (.inl (i)), some (.inl (12))] [] (cm_hB (cm_ua D 17 g) X)) (P := fun i g => ∀ n, 0 ≤ n → n < i → g n = v) (lo := 0) (hi := 12) (fun i g i0 i1 hP => by
    refine ⟨cm_u1 g i v, ?_, fun n n0 n1 => ?_⟩
    · show cm_x 294 5 [some (.inr (.inr 17)), some (.inl (v)), some (.inl (i)), some (.inl (12))] [] (cm_hB (cm_ua D 17 g) X) = cm_x 294 5 [some (.inr (.inr 17)), some (.inl (v)), some (.inl (i + 1)), some (.inl (12))] [] (cm_hB (cm_ua D 17 (cm_u1 g i v)) X)
      rw [sB_J7_fill_53178_l_5, if_pos i1, ck_t (by omega), up_to_ua, ua_ua, ua_same, cm_wr_id (by omega) (by omega)]
    · by_cases hn : n = i
      · rw [hn, u1_eq]
      · rw [u1_ne hn]; exact hP n n0 (by omega)) (D 17) (by omega) (fun n n0 n1 => by omega)
  have L : cm_x 294 5 [some (.inr (.inr 17)), some (.inl (v)), some (.inl (0)), some (.inl (12))] [] (cm_hB D X) = cm_x 294 5 [some (.inr (.inr 17)), some (.inl (v)), some (.inl (12)), some (.inl (12))] [] (cm_hB (cm_ua D 17 g) X) := by
    have := L
    rw [ua_id] at this
    exact this
  refine ⟨g, ?_, P⟩
  rw [sB_J7_fill_53178_l_0, L, sB_J7_fill_53178_l_5, if_neg (by omega)]
theorem ev_fillwB (v : Int) : ∃ g, cm_x 294 0 [some (.inr (.inr 21)), some (.inl (v)), none, none] [] (cm_hB D X) = some (.inl none, cm_hB (cm_ua D 21 g) X) ∧ ∀ n, 0 ≤ n → n < 13 → g n = v := by
  obtain ⟨g, L, P⟩ := lp_inv (X := fun i g => cm_x 294 5 [some (.inr (.inr 21)), some (.inl (v)), some (.inl (i)), some (.inl (13))] [] (cm_hB (cm_ua D 21 g) X)) (P := fun i g => ∀ n, 0 ≤ n → n < i → g n = v) (lo := 0) (hi := 13) (fun i g i0 i1 hP => by
    refine ⟨cm_u1 g i v, ?_, fun n n0 n1 => ?_⟩
    · show cm_x 294 5 [some (.inr (.inr 21)), some (.inl (v)), some (.inl (i)), some (.inl (13))] [] (cm_hB (cm_ua D 21 g) X) = cm_x 294 5 [some (.inr (.inr 21)), some (.inl (v)), some (.inl (i + 1)), some (.inl (13))] [] (cm_hB (cm_ua D 21 (cm_u1 g i v)) X)
      rw [sB_J7_fill_53178_w_5, if_pos i1, ck_t (by omega), up_to_ua, ua_ua, ua_same, cm_wr_id (by omega) (by omega)]
    · by_cases hn : n = i
      · rw [hn, u1_eq]
      · rw [u1_ne hn]; exact hP n n0 (by omega)) (D 21) (by omega) (fun n n0 n1 => by omega)
  have L : cm_x 294 5 [some (.inr (.inr 21)), some (.inl (v)), some (.inl (0)), some (.inl (13))] [] (cm_hB D X) = cm_x 294 5 [some (.inr (.inr 21)), some (.inl (v)), some (.inl (13)), some (.inl (13))] [] (cm_hB (cm_ua D 21 g) X) := by
    have := L
    rw [ua_id] at this
    exact this
  refine ⟨g, ?_, P⟩
  rw [sB_J7_fill_53178_w_0, L, sB_J7_fill_53178_w_5, if_neg (by omega)]
theorem ev_settle0B : ∃ g, cm_x 65 0 [some (.inr (.inr 15)), none] [] (cm_hB D X) = some (.inl none, cm_hB (cm_up (cm_ua D 18 g) 15 6 0) X) ∧ ∀ n, 0 ≤ n → n < 12 → g n = 0 := by
  obtain ⟨g, L, P⟩ := lp_inv (X := fun i g => cm_x 65 2 [some (.inr (.inr 15)), some (.inl (i))] [] (cm_hB (cm_ua D 18 g) X)) (P := fun i g => ∀ n, 0 ≤ n → n < i → g n = 0) (lo := 0) (hi := 12) (fun i g i0 i1 hP => by
    refine ⟨cm_u1 g i 0, ?_, fun n n0 n1 => ?_⟩
    · show cm_x 65 2 [some (.inr (.inr 15)), some (.inl (i))] [] (cm_hB (cm_ua D 18 g) X) = cm_x 65 2 [some (.inr (.inr 15)), some (.inl (i + 1))] [] (cm_hB (cm_ua D 18 (cm_u1 g i 0)) X)
      rw [sB_X6_settleChanges_2, if_pos i1, ck_t (by omega), up_to_ua, ua_ua, ua_same, cm_wr_id (by omega) (by omega)]
    · by_cases hn : n = i
      · rw [hn, u1_eq]
      · rw [u1_ne hn]; exact hP n n0 (by omega)) (D 18) (by omega) (fun n n0 n1 => by omega)
  have L : cm_x 65 2 [some (.inr (.inr 15)), some (.inl (0))] [] (cm_hB D X) = cm_x 65 2 [some (.inr (.inr 15)), some (.inl (12))] [] (cm_hB (cm_ua D 18 g) X) := by
    have := L
    rw [ua_id] at this
    exact this
  refine ⟨g, ?_, P⟩
  rw [sB_X6_settleChanges_0, L, sB_X6_settleChanges_2, if_neg (by omega)]
theorem ev_dropB : ∃ D', cm_x 64 0 [some (.inr (.inr 15))] [] (cm_hB D X) = some (.inl none, cm_hB D' X) ∧ drQ D D' := by
  obtain ⟨a, a1, a2⟩ := ev_fillvB (D := D) (X := X) 0
  obtain ⟨c, c1, c2⟩ := ev_filllB (D := cm_ua D 16 a) (X := X) 0
  obtain ⟨d, d1, d2⟩ := ev_fillwB (D := cm_ua (cm_ua D 16 a) 17 c) (X := X) (-1)
  obtain ⟨e, e1, e2⟩ := ev_settle0B (D := cm_ua (cm_ua (cm_ua D 16 a) 17 c) 21 d) (X := X)
  refine ⟨cm_up (cm_ua (cm_ua (cm_ua (cm_ua D 16 a) 17 c) 21 d) 18 e) 15 6 0, ?_, ?_, ?_, ?_, ?_⟩
  · rw [sB_X6_dropFiles_0, a1, aft_n, sB_X6_dropFiles_8, c1, aft_n, sB_X6_dropFiles_16, d1, aft_n, sB_X6_dropFiles_24, e1, aft_n, sB_X6_dropFiles_28]
  · exact fun n n0 n1 => ⟨a2 n n0 n1, c2 n n0 n1, e2 n n0 n1⟩
  · exact fun v v0 v1 => d2 v v0 v1
  · rfl
  · intro x h1 h2 h3 h4 h5
    rw [up_row h1, ua_row h4, ua_row h5, ua_row h3, ua_row h2]
theorem ev_tkDB (h0 : C 10 0 = 0) (X : cm_X) : ∃ A, cm_x 16 0 [some (.inr (.inr 9)), some (.inr (.inr 2)), none] [] (cm_hB C X) = some (.inl none, cm_hB (cm_ua (cm_ua C 9 (cm_u1 (cm_u1 (cm_u1 (cm_u1 (C 9) 0 (C 2 4)) 1 (C 2 5)) 2 (C 2 6)) 3 (C 2 7))) 10 A) X) ∧ A 0 = 0 ∧ ∀ b, 0 ≤ b → b < 400 → A (b + 1) = A b + (if C 5 b = 0 then 0 else 1) := by
  generalize hC1 : cm_up (cm_up (cm_up (cm_up C 9 0 (C 2 4)) 9 1 (C 2 5)) 9 2 (C 2 6)) 9 3 (C 2 7) = C1
  have q5 : C1 5 = C 5 := by rw [← hC1]; rfl
  have q10 : C1 10 = C 10 := by rw [← hC1]; rfl
  have e : C1 = cm_ua C 9 (cm_u1 (cm_u1 (cm_u1 (cm_u1 (C 9) 0 (C 2 4)) 1 (C 2 5)) 2 (C 2 6)) 3 (C 2 7)) := by
    rw [← hC1]
    simp only [up_to_ua, ua_ua, ua_same]
  obtain ⟨A, L, P1, P2, P3⟩ := lp_inv (X := fun j A => cm_x 16 34 [some (.inr (.inr 9)), some (.inr (.inr 2)), some (.inl (j))] [] (cm_hB (cm_ua C1 10 A) X)) (P := fun j A => A 0 = 0 ∧ (0 ≤ A j ∧ A j ≤ j) ∧ ∀ b, 0 ≤ b → b < j → A (b + 1) = A b + (if C 5 b = 0 then 0 else 1)) (lo := 0) (hi := 400) (fun j A j0 j1 hP => by
    obtain ⟨p1, p2, p3⟩ := hP
    have w1 : cm_wr (j + 1) = j + 1 := cm_wr_id (by omega) (by omega)
    have z5 : (cm_ua C1 10 A) 5 = C 5 := q5
    refine ⟨cm_u1 A (j + 1) (A j + (if C 5 j = 0 then 0 else 1)), ?_, ?_, ?_, fun b b0 b1 => ?_⟩
    · show cm_x 16 34 [some (.inr (.inr 9)), some (.inr (.inr 2)), some (.inl (j))] [] (cm_hB (cm_ua C1 10 A) X) = cm_x 16 34 [some (.inr (.inr 9)), some (.inr (.inr 2)), some (.inl (j + 1))] [] (cm_hB (cm_ua C1 10 (cm_u1 A (j + 1) (A j + (if C 5 j = 0 then 0 else 1)))) X)
      rw [sB_X2_takeOver_34, if_pos j1, ck_t (by omega), ck_t (by omega), z5, w1, ua_same]
      by_cases hq : C 5 j = 0
      · rw [if_pos hq, if_pos hq, ck_t (by omega), cm_wr_id (x := A j + 0) (by omega) (by omega), up_to_ua, ua_ua, ua_same]
      · rw [if_neg hq, if_neg hq, ck_t (by omega), cm_wr_id (x := A j + 1) (by omega) (by omega), up_to_ua, ua_ua, ua_same]
    · rw [u1_ne (by omega)]; exact p1
    · rw [u1_eq]
      by_cases hq : C 5 j = 0
      · rw [if_pos hq]; omega
      · rw [if_neg hq]; omega
    · by_cases hb : b = j
      · rw [hb, u1_eq, u1_ne (by omega)]
      · rw [u1_ne (by omega), u1_ne (by omega)]; exact p3 b b0 (by omega)) (C1 10) (by omega) ⟨by rw [q10]; exact h0, by rw [q10, h0]; omega, fun b b0 b1 => by omega⟩
  have L : cm_x 16 34 [some (.inr (.inr 9)), some (.inr (.inr 2)), some (.inl (0))] [] (cm_hB (cm_ua C1 10 (C1 10)) X) = cm_x 16 34 [some (.inr (.inr 9)), some (.inr (.inr 2)), some (.inl (400))] [] (cm_hB (cm_ua C1 10 A) X) := L
  rw [ua_id] at L
  refine ⟨A, ?_, P1, P3⟩
  rw [sB_X2_takeOver_0, hC1, L, sB_X2_takeOver_34, if_neg (by omega), e]
