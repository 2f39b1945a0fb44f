/-! the references behind the class's constructor -/
variable {Rf : Nat → Int → Nat} {a b v : Nat}
theorem up_sm {x : Int} : cm_up Rf a x v a = cm_u1 (Rf a) x v := if_pos rfl
theorem ua_sm {g : Int → Nat} : cm_ua Rf a g a = g := if_pos rfl
theorem RA_out (h : b < a ∨ a + 282 ≤ b) : cm_RA a 40 Rf b = Rf b := by
  unfold cm_RA
  rw [if_neg (by omega), if_neg (by omega), if_neg (by omega)]
theorem RA_in (h1 : a + 2 ≤ b) (h2 : b < a + 282) : cm_RA a 40 Rf b = if (b - (a + 2)) % 7 = 0 then cm_rS b else fun _ => 400000 := by
  unfold cm_RA
  rw [if_pos (by omega)]
theorem RA_1 : cm_RA a 40 Rf (a + 1) = cm_rQ (a + 2) := by
  unfold cm_RA
  rw [if_neg (by omega), if_pos rfl]
  rfl
theorem RA_a : cm_RA a 40 Rf a = cm_rF [a + 1] := by
  unfold cm_RA
  rw [if_neg (by omega), if_neg (by omega), if_pos rfl]
def cm_n4 : Nat → Int → Nat := fun _ _ => 400000
theorem n4_e : cm_n4 b = cm_rF [] := rF_e.symm
theorem RX_0 : cm_RX cm_n4 0 = cm_rF [1, 400000, 2, 400000, 9, 15, 22, 26, 400000, 400000, 308, 604, 611, 612] := by
  simp (disch := omega) only [cm_RX, up_sm, ua_sm, up_rw, ua_rw, RA_out]
  rw [n4_e, u1_l (l2 := [1]) (Nat.le_of_ble_eq_true rfl) rfl, u1_l (l2 := [1, 400000, 2]) (Nat.le_of_ble_eq_true rfl) rfl, u1_l (l2 := [1, 400000, 2, 400000, 9]) (Nat.le_of_ble_eq_true rfl) rfl, u1_l (l2 := [1, 400000, 2, 400000, 9, 15]) (Nat.le_of_ble_eq_true rfl) rfl, u1_l (l2 := [1, 400000, 2, 400000, 9, 15, 22]) (Nat.le_of_ble_eq_true rfl) rfl, u1_l (l2 := [1, 400000, 2, 400000, 9, 15, 22, 26]) (Nat.le_of_ble_eq_true rfl) rfl, u1_l (l2 := [1, 400000, 2, 400000, 9, 15, 22, 26, 400000, 400000, 308]) (Nat.le_of_ble_eq_true rfl) rfl, u1_l (l2 := [1, 400000, 2, 400000, 9, 15, 22, 26, 400000, 400000, 308, 604]) (Nat.le_of_ble_eq_true rfl) rfl, u1_l (l2 := [1, 400000, 2, 400000, 9, 15, 22, 26, 400000, 400000, 308, 604, 611]) (Nat.le_of_ble_eq_true rfl) rfl, u1_l (l2 := [1, 400000, 2, 400000, 9, 15, 22, 26, 400000, 400000, 308, 604, 611, 612]) (Nat.le_of_ble_eq_true rfl) rfl]
theorem RX_2 : cm_RX cm_n4 2 = cm_rF [3, 400000, 400000, 400000, 400000, 400000, 400000, 400000, 5, 400000, 6, 7, 8] := by
  simp (disch := omega) only [cm_RX, up_sm, ua_sm, up_rw, ua_rw, RA_out]
  rw [n4_e, u1_l (l2 := [3]) (Nat.le_of_ble_eq_true rfl) rfl, u1_l (l2 := [3, 400000, 400000, 400000, 400000, 400000, 400000, 400000, 5]) (Nat.le_of_ble_eq_true rfl) rfl, u1_l (l2 := [3, 400000, 400000, 400000, 400000, 400000, 400000, 400000, 5, 400000, 6]) (Nat.le_of_ble_eq_true rfl) rfl, u1_l (l2 := [3, 400000, 400000, 400000, 400000, 400000, 400000, 400000, 5, 400000, 6, 7]) (Nat.le_of_ble_eq_true rfl) rfl, u1_l (l2 := [3, 400000, 400000, 400000, 400000, 400000, 400000, 400000, 5, 400000, 6, 7, 8]) (Nat.le_of_ble_eq_true rfl) rfl]
theorem RX_308 : cm_RX cm_n4 308 = cm_rF [400000, 309, 315, 322] := by
  simp (disch := omega) only [cm_RX, up_sm, ua_sm, up_rw, ua_rw, RA_out]
  rw [n4_e, u1_l (l2 := [400000, 309]) (Nat.le_of_ble_eq_true rfl) rfl, u1_l (l2 := [400000, 309, 315]) (Nat.le_of_ble_eq_true rfl) rfl, u1_l (l2 := [400000, 309, 315, 322]) (Nat.le_of_ble_eq_true rfl) rfl]
theorem RX_3 : cm_RX cm_n4 3 = cm_rF [4] := by
  simp (disch := omega) only [cm_RX, up_sm, ua_sm, up_rw, ua_rw, RA_out]
theorem RX_9 : cm_RX cm_n4 9 = cm_rF [400000, 400000, 400000, 400000, 400000, 10, 11, 12, 13, 14] := by
  simp (disch := omega) only [cm_RX, up_sm, ua_sm, up_rw, ua_rw, RA_out]
theorem RX_15 : cm_RX cm_n4 15 = cm_rF [16, 17, 18, 19, 20, 21] := by
  simp (disch := omega) only [cm_RX, up_sm, ua_sm, up_rw, ua_rw, RA_out]
theorem RX_22 : cm_RX cm_n4 22 = cm_rF [23, 24, 25] := by
  simp (disch := omega) only [cm_RX, up_sm, ua_sm, up_rw, ua_rw, RA_out]
theorem RX_309 : cm_RX cm_n4 309 = cm_rF [400000, 400000, 400000, 400000, 400000, 310, 311, 312, 313, 314] := by
  simp (disch := omega) only [cm_RX, up_sm, ua_sm, up_rw, ua_rw, RA_out]
theorem RX_315 : cm_RX cm_n4 315 = cm_rF [316, 317, 318, 319, 320, 321] := by
  simp (disch := omega) only [cm_RX, up_sm, ua_sm, up_rw, ua_rw, RA_out]
theorem RX_604 : cm_RX cm_n4 604 = cm_rF [605, 606, 607, 608, 609, 610] := by
  simp (disch := omega) only [cm_RX, up_sm, ua_sm, up_rw, ua_rw, RA_out]
theorem RX_26 : cm_RX cm_n4 26 = cm_rF [27] := by
  simp (disch := omega) only [cm_RX, up_sm, ua_sm, up_rw, ua_rw, RA_out, RA_a]
theorem RX_27 : cm_RX cm_n4 27 = cm_rQ 28 := by
  have e : ∀ Rf, cm_RA 26 40 Rf 27 = cm_rQ 28 := fun Rf => RA_1
  simp (disch := omega) only [cm_RX, up_sm, ua_sm, up_rw, ua_rw, RA_out, e]
theorem RX_322 : cm_RX cm_n4 322 = cm_rF [323] := by
  simp (disch := omega) only [cm_RX, up_sm, ua_sm, up_rw, ua_rw, RA_out, RA_a]
theorem RX_323 : cm_RX cm_n4 323 = cm_rQ 324 := by
  have e : ∀ Rf, cm_RA 322 40 Rf 323 = cm_rQ 324 := fun Rf => RA_1
  simp (disch := omega) only [cm_RX, up_sm, ua_sm, up_rw, ua_rw, RA_out, e]
theorem RX_m (h1 : 28 ≤ b) (h2 : b < 308) : cm_RX cm_n4 b = if (b - 28) % 7 = 0 then cm_rS b else fun _ => 400000 := by
  simp (disch := omega) only [cm_RX, up_rw, ua_rw, RA_out, RA_in]
theorem RX_n (h1 : 324 ≤ b) (h2 : b < 604) : cm_RX cm_n4 b = if (b - 324) % 7 = 0 then cm_rS b else fun _ => 400000 := by
  simp (disch := omega) only [cm_RX, up_rw, ua_rw, RA_out, RA_in]
theorem RX_o (g0 : b ≠ 0) (g2 : b ≠ 2) (g3 : b ≠ 3) (g9 : b ≠ 9) (g15 : b ≠ 15) (g22 : b ≠ 22) (g26 : b ≠ 26) (g27 : b ≠ 27) (g308 : b ≠ 308) (g309 : b ≠ 309) (g315 : b ≠ 315) (g322 : b ≠ 322) (g323 : b ≠ 323) (g604 : b ≠ 604) (h1 : b < 28 ∨ 308 ≤ b) (h2 : b < 324 ∨ 604 ≤ b) : cm_RX cm_n4 b = fun _ => 400000 := by
  simp (disch := omega) only [cm_RX, up_rw, ua_rw, RA_out]
  rfl
theorem RX_eq : cm_RX cm_n4 = cm_R6 4 := by
  funext b
  by_cases g0 : b = 0
  · subst g0; rw [RX_0]; rfl
  by_cases g2 : b = 2
  · subst g2; rw [RX_2]; rfl
  by_cases g3 : b = 3
  · subst g3; rw [RX_3]; rfl
  by_cases g9 : b = 9
  · subst g9; rw [RX_9]; rfl
  by_cases g15 : b = 15
  · subst g15; rw [RX_15]; rfl
  by_cases g22 : b = 22
  · subst g22; rw [RX_22]; rfl
  by_cases g26 : b = 26
  · subst g26; rw [RX_26]; rfl
  by_cases g27 : b = 27
  · subst g27; rw [RX_27]; rfl
  by_cases g308 : b = 308
  · subst g308; rw [RX_308]; rfl
  by_cases g309 : b = 309
  · subst g309; rw [RX_309]; rfl
  by_cases g315 : b = 315
  · subst g315; rw [RX_315]; rfl
  by_cases g322 : b = 322
  · subst g322; rw [RX_322]; rfl
  by_cases g323 : b = 323
  · subst g323; rw [RX_323]; rfl
  by_cases g604 : b = 604
  · subst g604; rw [RX_604]; rfl
  by_cases h1 : 28 ≤ b ∧ b < 308
  · have e : cm_R6 4 b = if (b - 28) % 7 = 0 then cm_rS b else fun _ => 400000 := by
      unfold cm_R6 cm_R0
      rw [if_neg g3, if_pos (by omega), if_neg (by omega), if_pos h1.2, rF_e]
    rw [RX_m h1.1 h1.2, e]
  by_cases h2 : 324 ≤ b ∧ b < 604
  · have e : cm_R6 4 b = if (b - 324) % 7 = 0 then cm_rS b else fun _ => 400000 := by
      unfold cm_R6 cm_R0
      rw [if_neg g3, if_pos (by omega), if_neg (by omega), if_neg (by omega), if_neg (by omega), if_pos h2.2, rF_e]
    rw [RX_n h2.1 h2.2, e]
  rw [RX_o g0 g2 g3 g9 g15 g22 g26 g27 g308 g309 g315 g322 g323 g604 (by omega) (by omega)]
  by_cases h3 : b < 613
  · unfold cm_R6 cm_R0
    rw [if_neg (by omega), if_pos h3]
    by_cases h4 : b < 28
    · rw [if_pos h4, if_neg (by omega)]
      have hb : b = 1 ∨ b = 4 ∨ b = 5 ∨ b = 6 ∨ b = 7 ∨ b = 8 ∨ b = 10 ∨ b = 11 ∨ b = 12 ∨ b = 13 ∨ b = 14 ∨ b = 16 ∨ b = 17 ∨ b = 18 ∨ b = 19 ∨ b = 20 ∨ b = 21 ∨ b = 23 ∨ b = 24 ∨ b = 25 := by omega
      rcases hb with h | h | h | h | h | h | h | h | h | h | h | h | h | h | h | h | h | h | h | h <;> (subst h; exact rF_e.symm)
    · rw [if_neg h4, if_neg (by omega)]
      by_cases h5 : b < 324
      · rw [if_pos h5, if_neg (by omega)]
        have hb : b = 310 ∨ b = 311 ∨ b = 312 ∨ b = 313 ∨ b = 314 ∨ b = 316 ∨ b = 317 ∨ b = 318 ∨ b = 319 ∨ b = 320 ∨ b = 321 := by omega
        rcases hb with h | h | h | h | h | h | h | h | h | h | h <;> (subst h; exact rF_e.symm)
      · rw [if_neg h5, if_neg (by omega)]
        have hb : b = 605 ∨ b = 606 ∨ b = 607 ∨ b = 608 ∨ b = 609 ∨ b = 610 ∨ b = 611 ∨ b = 612 := by omega
        rcases hb with h | h | h | h | h | h | h | h <;> (subst h; exact rF_e.symm)
  · unfold cm_R6
    rw [if_neg (by omega), if_neg h3]
