/-! constructors of straight rows -/
variable {L k a v s : Nat} {Rf : Nat → Int → Nat} {D : Nat → Int → Int}
theorem X7_init_a0 (h : cm_H) : cm_x 94 0 [some (.inr (.inr a))] [] h = cm_na h 1 [.inl 0, .inr (.inr a)] (fun st h => cm_x 94 8 [some (.inr (.inr a))] st h) := (cm_un_eq [8, 11] 94 5 0 _ _ _).symm.trans rfl
theorem X7_init_b0 (st : List cm_V) (h : cm_H) : cm_x 94 8 [some (.inr (.inr a))] st h = cm_pf h 2 7 0 st (fun st h => cm_x 94 11 [some (.inr (.inr a))] st h) := (cm_un_eq [8, 11] 94 1 8 _ _ _).symm.trans rfl
theorem X7_init_e (h : cm_H) : cm_x 94 11 [some (.inr (.inr a))] [] h = some (.inl none, h) := (cm_un_eq [8, 11] 94 1 11 _ _ _).symm.trans rfl
theorem i_X7 (ha : cm_K0 L a = (0, 7)) (e0 : cm_K0 L (a + 1) = (1, 0)) (hf : cm_frs (a + 1) Rf D) (h0 : Rf a = fun _ => 400000) (hk : a + 1 < 634) : cm_x 94 0 [some (.inr (.inr a))] [] (cm_cs L (a + 1) Rf D s) = some (.inl none, cm_cs L (a + 1 + 1) (cm_ua Rf a (cm_rF [a + 1])) D (s + 0)) := by
  rw [X7_init_a0, na_s (n := 0) (m := 0) hf (by omega) e0 rfl (by omega)]
  rw [X7_init_b0, pf_s (by omega) (by omega) ha, up_fr h0, u1_l (l2 := [a + 1]) (Nat.le_of_ble_eq_true rfl) rfl]
  rw [X7_init_e]
theorem X2_init_a0 (h : cm_H) : cm_x 15 0 [some (.inr (.inr a))] [] h = cm_na h 1 [.inl 401, .inr (.inr a)] (fun st h => cm_x 15 10 [some (.inr (.inr a))] st h) := (cm_un_eq [10, 13, 19, 22, 28, 31, 37, 40, 46, 49] 15 5 0 _ _ _).symm.trans rfl
theorem X2_init_b0 (st : List cm_V) (h : cm_H) : cm_x 15 10 [some (.inr (.inr a))] st h = cm_pf h 2 2 5 st (fun st h => cm_x 15 13 [some (.inr (.inr a))] st h) := (cm_un_eq [10, 13, 19, 22, 28, 31, 37, 40, 46, 49] 15 1 10 _ _ _).symm.trans rfl
theorem X2_init_a1 (h : cm_H) : cm_x 15 13 [some (.inr (.inr a))] [] h = cm_na h 1 [.inl 400, .inr (.inr a)] (fun st h => cm_x 15 19 [some (.inr (.inr a))] st h) := (cm_un_eq [10, 13, 19, 22, 28, 31, 37, 40, 46, 49] 15 3 13 _ _ _).symm.trans rfl
theorem X2_init_b1 (st : List cm_V) (h : cm_H) : cm_x 15 19 [some (.inr (.inr a))] st h = cm_pf h 2 2 6 st (fun st h => cm_x 15 22 [some (.inr (.inr a))] st h) := (cm_un_eq [10, 13, 19, 22, 28, 31, 37, 40, 46, 49] 15 1 19 _ _ _).symm.trans rfl
theorem X2_init_a2 (h : cm_H) : cm_x 15 22 [some (.inr (.inr a))] [] h = cm_na h 1 [.inl 400, .inr (.inr a)] (fun st h => cm_x 15 28 [some (.inr (.inr a))] st h) := (cm_un_eq [10, 13, 19, 22, 28, 31, 37, 40, 46, 49] 15 3 22 _ _ _).symm.trans rfl
theorem X2_init_b2 (st : List cm_V) (h : cm_H) : cm_x 15 28 [some (.inr (.inr a))] st h = cm_pf h 2 2 7 st (fun st h => cm_x 15 31 [some (.inr (.inr a))] st h) := (cm_un_eq [10, 13, 19, 22, 28, 31, 37, 40, 46, 49] 15 1 28 _ _ _).symm.trans rfl
theorem X2_init_a3 (h : cm_H) : cm_x 15 31 [some (.inr (.inr a))] [] h = cm_na h 1 [.inl 6000, .inr (.inr a)] (fun st h => cm_x 15 37 [some (.inr (.inr a))] st h) := (cm_un_eq [10, 13, 19, 22, 28, 31, 37, 40, 46, 49] 15 3 31 _ _ _).symm.trans rfl
theorem X2_init_b3 (st : List cm_V) (h : cm_H) : cm_x 15 37 [some (.inr (.inr a))] st h = cm_pf h 2 2 8 st (fun st h => cm_x 15 40 [some (.inr (.inr a))] st h) := (cm_un_eq [10, 13, 19, 22, 28, 31, 37, 40, 46, 49] 15 1 37 _ _ _).symm.trans rfl
theorem X2_init_a4 (h : cm_H) : cm_x 15 40 [some (.inr (.inr a))] [] h = cm_na h 1 [.inl 400, .inr (.inr a)] (fun st h => cm_x 15 46 [some (.inr (.inr a))] st h) := (cm_un_eq [10, 13, 19, 22, 28, 31, 37, 40, 46, 49] 15 3 40 _ _ _).symm.trans rfl
theorem X2_init_b4 (st : List cm_V) (h : cm_H) : cm_x 15 46 [some (.inr (.inr a))] st h = cm_pf h 2 2 9 st (fun st h => cm_x 15 49 [some (.inr (.inr a))] st h) := (cm_un_eq [10, 13, 19, 22, 28, 31, 37, 40, 46, 49] 15 1 46 _ _ _).symm.trans rfl
theorem X2_init_e (h : cm_H) : cm_x 15 49 [some (.inr (.inr a))] [] h = some (.inl none, h) := (cm_un_eq [10, 13, 19, 22, 28, 31, 37, 40, 46, 49] 15 1 49 _ _ _).symm.trans rfl
theorem i_X2 (ha : cm_K0 L a = (0, 2)) (e0 : cm_K0 L (a + 1) = (1, 401)) (e1 : cm_K0 L (a + 1 + 1) = (1, 400)) (e2 : cm_K0 L (a + 1 + 1 + 1) = (1, 400)) (e3 : cm_K0 L (a + 1 + 1 + 1 + 1) = (1, 6000)) (e4 : cm_K0 L (a + 1 + 1 + 1 + 1 + 1) = (1, 400)) (hf : cm_frs (a + 1) Rf D) (h0 : Rf a = fun _ => 400000) (hk : a + 5 < 634) : cm_x 15 0 [some (.inr (.inr a))] [] (cm_cs L (a + 1) Rf D s) = some (.inl none, cm_cs L (a + 1 + 1 + 1 + 1 + 1 + 1) (cm_ua Rf a (cm_rF [400000, 400000, 400000, 400000, 400000, a + 1, a + 1 + 1, a + 1 + 1 + 1, a + 1 + 1 + 1 + 1, a + 1 + 1 + 1 + 1 + 1])) D (s + 401 + 400 + 400 + 6000 + 400)) := by
  rw [X2_init_a0, na_s (n := 401) (m := 401) hf (by omega) e0 rfl (by omega)]
  rw [X2_init_b0, pf_s (by omega) (by omega) ha, up_fr h0, u1_l (l2 := [400000, 400000, 400000, 400000, 400000, a + 1]) (Nat.le_of_ble_eq_true rfl) rfl]
  rw [X2_init_a1, na_s (n := 400) (m := 400) (fr_a (fr_m hf (by omega)) (by omega)) (by omega) e1 rfl (by omega)]
  rw [X2_init_b1, pf_s (by omega) (by omega) ha, up_uaR, u1_l (l2 := [400000, 400000, 400000, 400000, 400000, a + 1, a + 1 + 1]) (Nat.le_of_ble_eq_true rfl) rfl]
  rw [X2_init_a2, na_s (n := 400) (m := 400) (fr_a (fr_m hf (by omega)) (by omega)) (by omega) e2 rfl (by omega)]
  rw [X2_init_b2, pf_s (by omega) (by omega) ha, up_uaR, u1_l (l2 := [400000, 400000, 400000, 400000, 400000, a + 1, a + 1 + 1, a + 1 + 1 + 1]) (Nat.le_of_ble_eq_true rfl) rfl]
  rw [X2_init_a3, na_s (n := 6000) (m := 6000) (fr_a (fr_m hf (by omega)) (by omega)) (by omega) e3 rfl (by omega)]
  rw [X2_init_b3, pf_s (by omega) (by omega) ha, up_uaR, u1_l (l2 := [400000, 400000, 400000, 400000, 400000, a + 1, a + 1 + 1, a + 1 + 1 + 1, a + 1 + 1 + 1 + 1]) (Nat.le_of_ble_eq_true rfl) rfl]
  rw [X2_init_a4, na_s (n := 400) (m := 400) (fr_a (fr_m hf (by omega)) (by omega)) (by omega) e4 rfl (by omega)]
  rw [X2_init_b4, pf_s (by omega) (by omega) ha, up_uaR, u1_l (l2 := [400000, 400000, 400000, 400000, 400000, a + 1, a + 1 + 1, a + 1 + 1 + 1, a + 1 + 1 + 1 + 1, a + 1 + 1 + 1 + 1 + 1]) (Nat.le_of_ble_eq_true rfl) rfl]
  rw [X2_init_e]
theorem X6_init_a0 (h : cm_H) : cm_x 61 0 [some (.inr (.inr a))] [] h = cm_na h 1 [.inl 12, .inr (.inr a)] (fun st h => cm_x 61 9 [some (.inr (.inr a))] st h) := (cm_un_eq [9, 12, 17, 20, 25, 28, 33, 36, 41, 44, 49, 52] 61 5 0 _ _ _).symm.trans rfl
theorem X6_init_b0 (st : List cm_V) (h : cm_H) : cm_x 61 9 [some (.inr (.inr a))] st h = cm_pf h 2 6 0 st (fun st h => cm_x 61 12 [some (.inr (.inr a))] st h) := (cm_un_eq [9, 12, 17, 20, 25, 28, 33, 36, 41, 44, 49, 52] 61 1 9 _ _ _).symm.trans rfl
theorem X6_init_a1 (h : cm_H) : cm_x 61 12 [some (.inr (.inr a))] [] h = cm_na h 1 [.inl 12, .inr (.inr a)] (fun st h => cm_x 61 17 [some (.inr (.inr a))] st h) := (cm_un_eq [9, 12, 17, 20, 25, 28, 33, 36, 41, 44, 49, 52] 61 3 12 _ _ _).symm.trans rfl
theorem X6_init_b1 (st : List cm_V) (h : cm_H) : cm_x 61 17 [some (.inr (.inr a))] st h = cm_pf h 2 6 1 st (fun st h => cm_x 61 20 [some (.inr (.inr a))] st h) := (cm_un_eq [9, 12, 17, 20, 25, 28, 33, 36, 41, 44, 49, 52] 61 1 17 _ _ _).symm.trans rfl
theorem X6_init_a2 (h : cm_H) : cm_x 61 20 [some (.inr (.inr a))] [] h = cm_na h 2 [.inl 12, .inr (.inr a)] (fun st h => cm_x 61 25 [some (.inr (.inr a))] st h) := (cm_un_eq [9, 12, 17, 20, 25, 28, 33, 36, 41, 44, 49, 52] 61 3 20 _ _ _).symm.trans rfl
theorem X6_init_b2 (st : List cm_V) (h : cm_H) : cm_x 61 25 [some (.inr (.inr a))] st h = cm_pf h 2 6 2 st (fun st h => cm_x 61 28 [some (.inr (.inr a))] st h) := (cm_un_eq [9, 12, 17, 20, 25, 28, 33, 36, 41, 44, 49, 52] 61 1 25 _ _ _).symm.trans rfl
theorem X6_init_a3 (h : cm_H) : cm_x 61 28 [some (.inr (.inr a))] [] h = cm_na h 1 [.inl 96, .inr (.inr a)] (fun st h => cm_x 61 33 [some (.inr (.inr a))] st h) := (cm_un_eq [9, 12, 17, 20, 25, 28, 33, 36, 41, 44, 49, 52] 61 3 28 _ _ _).symm.trans rfl
theorem X6_init_b3 (st : List cm_V) (h : cm_H) : cm_x 61 33 [some (.inr (.inr a))] st h = cm_pf h 2 6 3 st (fun st h => cm_x 61 36 [some (.inr (.inr a))] st h) := (cm_un_eq [9, 12, 17, 20, 25, 28, 33, 36, 41, 44, 49, 52] 61 1 33 _ _ _).symm.trans rfl
theorem X6_init_a4 (h : cm_H) : cm_x 61 36 [some (.inr (.inr a))] [] h = cm_na h 1 [.inl 96, .inr (.inr a)] (fun st h => cm_x 61 41 [some (.inr (.inr a))] st h) := (cm_un_eq [9, 12, 17, 20, 25, 28, 33, 36, 41, 44, 49, 52] 61 3 36 _ _ _).symm.trans rfl
theorem X6_init_b4 (st : List cm_V) (h : cm_H) : cm_x 61 41 [some (.inr (.inr a))] st h = cm_pf h 2 6 4 st (fun st h => cm_x 61 44 [some (.inr (.inr a))] st h) := (cm_un_eq [9, 12, 17, 20, 25, 28, 33, 36, 41, 44, 49, 52] 61 1 41 _ _ _).symm.trans rfl
theorem X6_init_a5 (h : cm_H) : cm_x 61 44 [some (.inr (.inr a))] [] h = cm_na h 1 [.inl 13, .inr (.inr a)] (fun st h => cm_x 61 49 [some (.inr (.inr a))] st h) := (cm_un_eq [9, 12, 17, 20, 25, 28, 33, 36, 41, 44, 49, 52] 61 3 44 _ _ _).symm.trans rfl
theorem X6_init_b5 (st : List cm_V) (h : cm_H) : cm_x 61 49 [some (.inr (.inr a))] st h = cm_pf h 2 6 5 st (fun st h => cm_x 61 52 [some (.inr (.inr a))] st h) := (cm_un_eq [9, 12, 17, 20, 25, 28, 33, 36, 41, 44, 49, 52] 61 1 49 _ _ _).symm.trans rfl
theorem X6_init_e (h : cm_H) : cm_x 61 52 [some (.inr (.inr a))] [] h = some (.inl none, h) := (cm_un_eq [9, 12, 17, 20, 25, 28, 33, 36, 41, 44, 49, 52] 61 1 52 _ _ _).symm.trans rfl
theorem i_X6 (ha : cm_K0 L a = (0, 6)) (e0 : cm_K0 L (a + 1) = (1, 12)) (e1 : cm_K0 L (a + 1 + 1) = (1, 12)) (e2 : cm_K0 L (a + 1 + 1 + 1) = (2, 12)) (e3 : cm_K0 L (a + 1 + 1 + 1 + 1) = (1, 96)) (e4 : cm_K0 L (a + 1 + 1 + 1 + 1 + 1) = (1, 96)) (e5 : cm_K0 L (a + 1 + 1 + 1 + 1 + 1 + 1) = (1, 13)) (hf : cm_frs (a + 1) Rf D) (h0 : Rf a = fun _ => 400000) (hk : a + 6 < 634) : cm_x 61 0 [some (.inr (.inr a))] [] (cm_cs L (a + 1) Rf D s) = some (.inl none, cm_cs L (a + 1 + 1 + 1 + 1 + 1 + 1 + 1) (cm_ua Rf a (cm_rF [a + 1, a + 1 + 1, a + 1 + 1 + 1, a + 1 + 1 + 1 + 1, a + 1 + 1 + 1 + 1 + 1, a + 1 + 1 + 1 + 1 + 1 + 1])) D (s + 12 + 12 + 12 + 96 + 96 + 13)) := by
  rw [X6_init_a0, na_s (n := 12) (m := 12) hf (by omega) e0 rfl (by omega)]
  rw [X6_init_b0, pf_s (by omega) (by omega) ha, up_fr h0, u1_l (l2 := [a + 1]) (Nat.le_of_ble_eq_true rfl) rfl]
  rw [X6_init_a1, na_s (n := 12) (m := 12) (fr_a (fr_m hf (by omega)) (by omega)) (by omega) e1 rfl (by omega)]
  rw [X6_init_b1, pf_s (by omega) (by omega) ha, up_uaR, u1_l (l2 := [a + 1, a + 1 + 1]) (Nat.le_of_ble_eq_true rfl) rfl]
  rw [X6_init_a2, na_s (n := 12) (m := 12) (fr_a (fr_m hf (by omega)) (by omega)) (by omega) e2 rfl (by omega)]
  rw [X6_init_b2, pf_s (by omega) (by omega) ha, up_uaR, u1_l (l2 := [a + 1, a + 1 + 1, a + 1 + 1 + 1]) (Nat.le_of_ble_eq_true rfl) rfl]
  rw [X6_init_a3, na_s (n := 96) (m := 96) (fr_a (fr_m hf (by omega)) (by omega)) (by omega) e3 rfl (by omega)]
  rw [X6_init_b3, pf_s (by omega) (by omega) ha, up_uaR, u1_l (l2 := [a + 1, a + 1 + 1, a + 1 + 1 + 1, a + 1 + 1 + 1 + 1]) (Nat.le_of_ble_eq_true rfl) rfl]
  rw [X6_init_a4, na_s (n := 96) (m := 96) (fr_a (fr_m hf (by omega)) (by omega)) (by omega) e4 rfl (by omega)]
  rw [X6_init_b4, pf_s (by omega) (by omega) ha, up_uaR, u1_l (l2 := [a + 1, a + 1 + 1, a + 1 + 1 + 1, a + 1 + 1 + 1 + 1, a + 1 + 1 + 1 + 1 + 1]) (Nat.le_of_ble_eq_true rfl) rfl]
  rw [X6_init_a5, na_s (n := 13) (m := 13) (fr_a (fr_m hf (by omega)) (by omega)) (by omega) e5 rfl (by omega)]
  rw [X6_init_b5, pf_s (by omega) (by omega) ha, up_uaR, u1_l (l2 := [a + 1, a + 1 + 1, a + 1 + 1 + 1, a + 1 + 1 + 1 + 1, a + 1 + 1 + 1 + 1 + 1, a + 1 + 1 + 1 + 1 + 1 + 1]) (Nat.le_of_ble_eq_true rfl) rfl]
  rw [X6_init_e]
theorem X1_init_a0 (h : cm_H) : cm_x 5 0 [some (.inr (.inr a))] [] h = cm_na h 1 [.inl 126, .inr (.inr a)] (fun st h => cm_x 5 9 [some (.inr (.inr a))] st h) := (cm_un_eq [9, 12, 17, 20, 25, 28] 5 5 0 _ _ _).symm.trans rfl
theorem X1_init_b0 (st : List cm_V) (h : cm_H) : cm_x 5 9 [some (.inr (.inr a))] st h = cm_pf h 2 1 0 st (fun st h => cm_x 5 12 [some (.inr (.inr a))] st h) := (cm_un_eq [9, 12, 17, 20, 25, 28] 5 1 9 _ _ _).symm.trans rfl
theorem X1_init_a1 (h : cm_H) : cm_x 5 12 [some (.inr (.inr a))] [] h = cm_na h 1 [.inl 126, .inr (.inr a)] (fun st h => cm_x 5 17 [some (.inr (.inr a))] st h) := (cm_un_eq [9, 12, 17, 20, 25, 28] 5 3 12 _ _ _).symm.trans rfl
theorem X1_init_b1 (st : List cm_V) (h : cm_H) : cm_x 5 17 [some (.inr (.inr a))] st h = cm_pf h 2 1 1 st (fun st h => cm_x 5 20 [some (.inr (.inr a))] st h) := (cm_un_eq [9, 12, 17, 20, 25, 28] 5 1 17 _ _ _).symm.trans rfl
theorem X1_init_a2 (h : cm_H) : cm_x 5 20 [some (.inr (.inr a))] [] h = cm_na h 1 [.inl 126, .inr (.inr a)] (fun st h => cm_x 5 25 [some (.inr (.inr a))] st h) := (cm_un_eq [9, 12, 17, 20, 25, 28] 5 3 20 _ _ _).symm.trans rfl
theorem X1_init_b2 (st : List cm_V) (h : cm_H) : cm_x 5 25 [some (.inr (.inr a))] st h = cm_pf h 2 1 2 st (fun st h => cm_x 5 28 [some (.inr (.inr a))] st h) := (cm_un_eq [9, 12, 17, 20, 25, 28] 5 1 25 _ _ _).symm.trans rfl
theorem X1_init_e (h : cm_H) : cm_x 5 28 [some (.inr (.inr a))] [] h = some (.inl none, h) := (cm_un_eq [9, 12, 17, 20, 25, 28] 5 1 28 _ _ _).symm.trans rfl
theorem i_X1 (ha : cm_K0 L a = (0, 1)) (e0 : cm_K0 L (a + 1) = (1, 126)) (e1 : cm_K0 L (a + 1 + 1) = (1, 126)) (e2 : cm_K0 L (a + 1 + 1 + 1) = (1, 126)) (hf : cm_frs (a + 1) Rf D) (h0 : Rf a = fun _ => 400000) (hk : a + 3 < 634) : cm_x 5 0 [some (.inr (.inr a))] [] (cm_cs L (a + 1) Rf D s) = some (.inl none, cm_cs L (a + 1 + 1 + 1 + 1) (cm_ua Rf a (cm_rF [a + 1, a + 1 + 1, a + 1 + 1 + 1])) D (s + 126 + 126 + 126)) := by
  rw [X1_init_a0, na_s (n := 126) (m := 126) hf (by omega) e0 rfl (by omega)]
  rw [X1_init_b0, pf_s (by omega) (by omega) ha, up_fr h0, u1_l (l2 := [a + 1]) (Nat.le_of_ble_eq_true rfl) rfl]
  rw [X1_init_a1, na_s (n := 126) (m := 126) (fr_a (fr_m hf (by omega)) (by omega)) (by omega) e1 rfl (by omega)]
  rw [X1_init_b1, pf_s (by omega) (by omega) ha, up_uaR, u1_l (l2 := [a + 1, a + 1 + 1]) (Nat.le_of_ble_eq_true rfl) rfl]
  rw [X1_init_a2, na_s (n := 126) (m := 126) (fr_a (fr_m hf (by omega)) (by omega)) (by omega) e2 rfl (by omega)]
  rw [X1_init_b2, pf_s (by omega) (by omega) ha, up_uaR, u1_l (l2 := [a + 1, a + 1 + 1, a + 1 + 1 + 1]) (Nat.le_of_ble_eq_true rfl) rfl]
  rw [X1_init_e]
