/-! the class reads nothing, with 613 cells: first its tokens are elsewhere -/
variable {C D : Nat → Int → Int} {X : cm_X}
def cm_R6 (x a : Nat) : Int → Nat := if a = 3 then cm_rF [x] else if a < 613 then cm_R0 a else fun _ => 400000
def cm_hA (D : Nat → Int → Int) (X : cm_X) : cm_H := (cm_Kk X.2.2.2 613, cm_R6 4, D, X.1, 613, X.2.1, X.2.2.1)
def cm_hB (D : Nat → Int → Int) (X : cm_X) : cm_H := (cm_Kk X.2.2.2 613, cm_R6 1, D, X.1, 613, X.2.1, X.2.2.1)
def cm_hC (D : Nat → Int → Int) (X : cm_X) : cm_H := (cm_Kk X.2.2.2 633, cm_R0, D, X.1, 633, X.2.1, X.2.2.1)
theorem sA_X5_forgetAll_0 (D : Nat → Int → Int) (X : cm_X) : cm_x 49 0 [some (.inr (.inr 2)), none] [] (cm_hA D X) = cm_x 49 40 [some (.inr (.inr 2)), some (.inl 0)] [] (cm_hA (cm_up (cm_up (cm_up (cm_up (cm_up (cm_up (cm_up D 2 1 0) 2 2 (-1)) 2 3 0) 2 4 200) 2 5 8) 2 6 1) 2 7 2) X) := (cm_un_eq [40] 49 25 0 _ _ _).symm.trans rfl
theorem sA_X5_forgetAll_40 (D : Nat → Int → Int) (X : cm_X) (x1 : Int) : cm_x 49 40 [some (.inr (.inr 2)), some (.inl x1)] [] (cm_hA D X) = (if x1 < 400 then cm_ck (0 ≤ x1 ∧ x1 < 400) (cm_x 49 40 [some (.inr (.inr 2)), some (.inl (cm_wr (x1 + 1)))] [] (cm_hA (cm_up D 5 x1 0) X)) else some (.inl none, (cm_hA (cm_up (cm_up D 2 9 0) 2 13 0) X))) := (cm_un_eq [40] 49 12 40 _ _ _).symm.trans rfl
theorem sA_X5_readText_0 (D : Nat → Int → Int) (X : cm_X) (x2 : Int) : cm_x 48 0 [some (.inr (.inr 2)), some (.inr (.inr 1)), some (.inl x2), none] [] (cm_hA D X) = cm_aft 48 1 4 [some (.inr (.inr 2)), some (.inr (.inr 1)), some (.inl x2), none] [] (cm_x 49 0 [some (.inr (.inr 2)), none] [] (cm_hA D X)) := (cm_un_eq [4, 13, 15, 41] 48 3 0 _ _ _).symm.trans rfl
theorem sA_X5_readText_4 (D : Nat → Int → Int) (X : cm_X) (x2 : Int) : cm_x 48 4 [some (.inr (.inr 2)), some (.inr (.inr 1)), some (.inl x2), none] [] (cm_hA D X) = cm_aft 48 10 13 [some (.inr (.inr 2)), some (.inr (.inr 1)), some (.inl x2), none] [] (cm_x 95 0 [some (.inr (.inr 3)), some (.inr (.inr 1)), some (.inl x2)] [] (cm_hA D X)) := (cm_un_eq [4, 13, 15, 41] 48 6 4 _ _ _).symm.trans rfl
theorem ev_forgetA (X : cm_X) : ∃ g, cm_x 49 0 [some (.inr (.inr 2)), none] [] (cm_hA C X) = some (.inl none, cm_hA (cm_ua (cm_ua C 5 g) 2 (cm_u1 (cm_u1 (cm_u1 (cm_u1 (cm_u1 (cm_u1 (cm_u1 (cm_u1 (cm_u1 (C 2) 1 0) 2 (-1)) 3 0) 4 200) 5 8) 6 1) 7 2) 9 0) 13 0)) X) ∧ ∀ b, 0 ≤ b → b < 400 → g b = 0 := by
  generalize hC1 : cm_up (cm_up (cm_up (cm_up (cm_up (cm_up (cm_up C 2 1 0) 2 2 (-1)) 2 3 0) 2 4 200) 2 5 8) 2 6 1) 2 7 2 = C1
  obtain ⟨g, L, P⟩ := lp_inv (X := fun j g => cm_x 49 40 [some (.inr (.inr 2)), some (.inl (j))] [] (cm_hA (cm_ua C1 5 g) X)) (P := fun j g => ∀ b, 0 ≤ b → b < j → g b = 0) (lo := 0) (hi := 400) (fun j g j0 j1 hP => by
    refine ⟨cm_u1 g j 0, ?_, fun b b0 b1 => ?_⟩
    · show cm_x 49 40 [some (.inr (.inr 2)), some (.inl (j))] [] (cm_hA (cm_ua C1 5 g) X) = cm_x 49 40 [some (.inr (.inr 2)), some (.inl (j + 1))] [] (cm_hA (cm_ua C1 5 (cm_u1 g j 0)) X)
      rw [sA_X5_forgetAll_40, if_pos j1, ck_t (by omega), up_to_ua, ua_ua, ua_same, cm_wr_id (by omega) (by omega)]
    · by_cases hb : b = j
      · rw [hb, u1_eq]
      · rw [u1_ne hb]; exact hP b b0 (by omega)) (C1 5) (by omega) (fun b b0 b1 => by omega)
  have L : cm_x 49 40 [some (.inr (.inr 2)), some (.inl (0))] [] (cm_hA (cm_ua C1 5 (C1 5)) X) = cm_x 49 40 [some (.inr (.inr 2)), some (.inl (400))] [] (cm_hA (cm_ua C1 5 g) X) := L
  rw [ua_id] at L
  refine ⟨g, ?_, P⟩
  rw [sA_X5_forgetAll_0, hC1, L, sA_X5_forgetAll_40, if_neg (by omega)]
  have e : cm_up (cm_up (cm_ua C1 5 g) 2 9 0) 2 13 0 = cm_ua (cm_ua C 5 g) 2 (cm_u1 (cm_u1 (cm_u1 (cm_u1 (cm_u1 (cm_u1 (cm_u1 (cm_u1 (cm_u1 (C 2) 1 0) 2 (-1)) 3 0) 4 200) 5 8) 6 1) 7 2) 9 0) 13 0) := by
    rw [← hC1]
    funext x
    by_cases h2 : x = 2
    · rw [h2, ua_same]; rfl
    · rw [up_row h2, up_row h2, ua_row h2]
      by_cases h5 : x = 5
      · rw [h5, ua_same, ua_same]
      · rw [ua_row h5, ua_row h5, up_row h2, up_row h2, up_row h2, up_row h2, up_row h2, up_row h2, up_row h2]
  rw [e]
