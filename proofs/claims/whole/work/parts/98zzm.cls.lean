/-! the class's constructor: to its end -/
variable {C D : Nat → Int → Int} {X : cm_X} {L s : Nat}
theorem rd_0 (C : Nat → Int → Int) (X : cm_X) : ∃ C' g, cm_x 48 0 [some (.inr (.inr 2)), some (.inr (.inr 1)), some (.inl (0)), none] [] (cm_hA C X) = some (.inl none, cm_hB C' X) ∧ C' 2 = cm_u1 (cm_u1 (cm_u1 (cm_u1 (cm_u1 (cm_u1 (cm_u1 (cm_u1 (cm_u1 (C 2) 1 0) 2 (-1)) 3 0) 4 200) 5 8) 6 1) 7 2) 9 0) 13 0 ∧ C' 5 = g ∧ (∀ b, 0 ≤ b → b < 400 → g b = 0) ∧ ∀ x : Nat, x ≠ 2 → x ≠ 3 → x ≠ 5 → C' x = C x := by
  obtain ⟨g, f1, f2⟩ := ev_forgetA (C := C) X
  generalize hr : cm_u1 (cm_u1 (cm_u1 (cm_u1 (cm_u1 (cm_u1 (cm_u1 (cm_u1 (cm_u1 (C 2) 1 0) 2 (-1)) 3 0) 4 200) 5 8) 6 1) 7 2) 9 0) 13 0 = row at f1
  generalize hD1 : cm_ua (cm_ua C 5 g) 2 row = D1 at f1
  have adv : cm_x 96 0 [some (.inr (.inr 3))] [] (cm_hB (cm_up (cm_up D1 3 1 (cm_mn 0 700)) 3 2 0) X) = some (.inl none, cm_hB (cm_up (cm_up (cm_up (cm_up (cm_up D1 3 1 (cm_mn 0 700)) 3 2 0) 3 3 0) 3 4 0) 3 2 0) X) := by
    have e0 : (cm_up (cm_up D1 3 1 (cm_mn 0 700)) 3 2 0) 3 2 = 0 := rfl
    rw [sB_X7_advance_0, e0]
    generalize h : cm_up (cm_up (cm_up D1 3 1 (cm_mn 0 700)) 3 2 0) 3 3 0 = D3
    have e1 : D3 3 3 = 0 := by rw [← h]; rfl
    have e2 : D3 3 1 = 0 := by rw [← h]; rfl
    rw [sB_X7_advance_8, e1, e2, if_neg (by omega), if_neg (by omega)]
  generalize hD5 : cm_up (cm_up (cm_up (cm_up (cm_up D1 3 1 (cm_mn 0 700)) 3 2 0) 3 3 0) 3 4 0) 3 2 0 = D5 at adv
  have q21 : D5 2 1 = 0 := by rw [← hD5, ← hD1, ← hr]; rfl
  have q34 : D5 3 4 = 0 := by rw [← hD5]; rfl
  refine ⟨D5, g, ?_, ?_, ?_, f2, fun x h2 h3 h5 => ?_⟩
  · rw [sA_X5_readText_0, f1, aft_n, sA_X5_readText_4, sB_X7_begin_0, adv, aft_n, sB_X7_begin_24, aft_n, sB_X5_readText_13, sB_X5_readText_15, if_neg (by omega), q21, if_pos rfl, q34, if_pos rfl]
  · rw [← hD5, ← hD1]; rfl
  · rw [← hD5, ← hD1]; rfl
  · rw [← hD5, up_row h3, up_row h3, up_row h3, up_row h3, up_row h3, ← hD1, ua_row h2, ua_row h5]
theorem bg_0 (h10 : C 10 0 = 0) (h13 : C 2 13 = 0) (h5 : ∀ b, 0 ≤ b → b < 400 → C 5 b = 0) (X : cm_X) : ∃ C', cm_x 104 0 [some (.inr (.inr 0))] [] (cm_hB C X) = some (.inl none, cm_hB C' X) ∧ C' 9 = cm_u1 (cm_u1 (cm_u1 (cm_u1 (C 9) 0 (C 2 4)) 1 (C 2 5)) 2 (C 2 6)) 3 (C 2 7) ∧ (C' 10 0 = 0 ∧ ∀ b, 0 ≤ b → b < 400 → C' 10 (b + 1) = C' 10 b) ∧ (∀ n, 0 ≤ n → n < 12 → C' 16 n = 0 ∧ C' 17 n = 0 ∧ C' 18 n = 0) ∧ (∀ v, 0 ≤ v → v < 13 → C' 21 v = -1) ∧ (C' 15 6 = 0 ∧ C' 15 7 = -1 ∧ C' 15 8 = 0 ∧ C' 15 9 = 0 ∧ C' 15 10 = 0) ∧ (C' 26 1 = 0 ∧ C' 26 2 = 0 ∧ C' 308 0 = 0) ∧ ∀ x : Nat, x ≠ 9 → x ≠ 10 → x ≠ 15 → x ≠ 16 → x ≠ 17 → x ≠ 18 → x ≠ 21 → x ≠ 26 → x ≠ 308 → C' x = C x := by
  obtain ⟨A, a1, a2, a3⟩ := ev_tkDB (C := C) h10 X
  generalize hC1 : cm_ua (cm_ua C 9 (cm_u1 (cm_u1 (cm_u1 (cm_u1 (C 9) 0 (C 2 4)) 1 (C 2 5)) 2 (C 2 6)) 3 (C 2 7))) 10 A = C1 at a1
  obtain ⟨D1, r1, k1, k2, k3, k4⟩ := ev_dropB (D := C1) (X := X)
  have d2 : D1 2 13 = 0 := by
    rw [k4 2 (by omega) (by omega) (by omega) (by omega) (by omega), ← hC1]
    exact h13
  have m1 : cm_x 63 0 [some (.inr (.inr 15)), some (.inr (.inr 2)), none, none, none] [] (cm_hB C1 X) = some (.inl none, cm_hB (cm_up (cm_up (cm_up (cm_up (cm_up D1 15 7 (-1)) 15 8 0) 15 9 0) 15 10 0) 15 6 0) X) := by
    rw [sB_X6_takeOver_0, r1, aft_n, sB_X6_takeOver_4, d2, if_neg (by omega), sB_X6_takeOver_42]
    have e : (cm_up (cm_up (cm_up (cm_up (cm_up D1 15 7 (-1)) 15 8 0) 15 9 0) 15 10 0) 15 6 0) 2 13 = 0 := d2
    rw [e, if_neg (by omega)]
  generalize hG : cm_up (cm_up (cm_up (cm_up (cm_up D1 15 7 (-1)) 15 8 0) 15 9 0) 15 10 0) 15 6 0 = G at m1
  have g : ∀ x : Nat, x ≠ 15 → G x = D1 x := fun x hx => by
    rw [← hG, up_row hx, up_row hx, up_row hx, up_row hx, up_row hx]
  have g15 : G 15 6 = 0 ∧ G 15 7 = -1 ∧ G 15 8 = 0 ∧ G 15 9 = 0 ∧ G 15 10 = 0 := by
    rw [← hG]
    exact ⟨rfl, rfl, rfl, rfl, rfl⟩
  have u : ∀ x : Nat, x ≠ 26 → x ≠ 308 → (cm_up (cm_up (cm_up G 26 1 0) 26 2 0) 308 0 0) x = G x := fun x h1 h2 => by
    rw [up_row h2, up_row h1, up_row h1]
  have k9 : G 9 = C1 9 := (g 9 (by omega)).trans (k4 9 (by omega) (by omega) (by omega) (by omega) (by omega))
  have k10 : G 10 = C1 10 := (g 10 (by omega)).trans (k4 10 (by omega) (by omega) (by omega) (by omega) (by omega))
  refine ⟨cm_up (cm_up (cm_up G 26 1 0) 26 2 0) 308 0 0, ?_, ?_, ?_, ?_, ?_, ?_, ⟨rfl, rfl, rfl⟩, fun x h9 h10' h15 h16 h17 h18 h21 h26 h308 => ?_⟩
  · rw [sB_X8_beginAnew_0, a1, aft_n, sB_X8_beginAnew_11, m1, aft_n, sB_X8_beginAnew_22, sB_X0_forget_0, aft_n, sB_X8_beginAnew_29]
  · rw [u 9 (by omega) (by omega), k9, ← hC1]; rfl
  · rw [u 10 (by omega) (by omega), k10, ← hC1]
    refine ⟨a2, fun b b0 b1 => ?_⟩
    have z := a3 b b0 b1
    rw [if_pos (h5 b b0 b1), Int.add_zero] at z
    exact z
  · intro n n0 n1
    rw [u 16 (by omega) (by omega), u 17 (by omega) (by omega), u 18 (by omega) (by omega), g 16 (by omega), g 17 (by omega), g 18 (by omega)]
    exact k1 n n0 n1
  · intro v v0 v1
    rw [u 21 (by omega) (by omega), g 21 (by omega)]
    exact k2 v v0 v1
  · rw [u 15 (by omega) (by omega)]
    exact g15
  · rw [u x h26 h308, g x h15, k4 x h15 h16 h17 h18 h21, ← hC1, ua_row h10', ua_row h9]
theorem sX8_115 (D : Nat → Int → Int) (X : cm_X) : cm_x 100 115 [some (.inr (.inr 0))] [] (cm_hA D X) = cm_aft 100 124 127 [some (.inr (.inr 0))] [] (cm_x 48 0 [some (.inr (.inr 2)), some (.inr (.inr 1)), some (.inl (0)), none] [] (cm_hA D X)) := (cm_un_eq [127, 131] 100 6 115 _ _ _).symm.trans rfl
theorem sX8_127 (D : Nat → Int → Int) (X : cm_X) : cm_x 100 127 [some (.inr (.inr 0))] [] (cm_hB D X) = cm_aft 100 128 131 [some (.inr (.inr 0))] [] (cm_x 104 0 [some (.inr (.inr 0))] [] (cm_hB D X)) := (cm_un_eq [127, 131] 100 3 127 _ _ _).symm.trans rfl
theorem sX8_131 (D : Nat → Int → Int) (X : cm_X) : cm_x 100 131 [some (.inr (.inr 0))] [] (cm_hB D X) = some (.inl none, (cm_hB D X)) := (cm_un_eq [127, 131] 100 1 131 _ _ _).symm.trans rfl
/-- the script, and nothing else -/
def cm_DI (I : Int → Int) : Nat → Int → Int := fun a j => if a = 100000 then I j else 0
theorem DI_z (I : Int → Int) {a : Nat} (h : a ≠ 100000) : cm_DI I a = fun _ => 0 := by
  funext j
  exact if_neg h
theorem DI_i (I : Int → Int) : cm_DI I 100000 = I := by
  funext j
  exact if_pos rfl
theorem fr_I (I : Int → Int) (k : Nat) : cm_frs k cm_n4 (cm_DI I) := fun b _ h2 => ⟨rfl, DI_z I (by omega)⟩
theorem cls_new (L : Nat) (I : Int → Int) (s : Nat) : ∃ C, cm_x 100 0 [some (.inr (.inr 0))] [] (cm_cs L 1 cm_n4 (cm_DI I) s) = some (.inl none, cm_hB C (cm_z0, 613, s + 38256, L)) ∧ C 0 = cm_u1 (fun _ => 0) 3 (-1) ∧ C 9 = cm_u1 (cm_u1 (cm_u1 (cm_u1 (fun _ => 0) 0 200) 1 8) 2 1) 3 2 ∧ C 2 13 = 0 ∧ (C 10 0 = 0 ∧ ∀ b, 0 ≤ b → b < 400 → C 10 (b + 1) = C 10 b) ∧ (∀ n, 0 ≤ n → n < 12 → C 16 n = 0 ∧ C 17 n = 0 ∧ C 18 n = 0) ∧ (∀ v, 0 ≤ v → v < 13 → C 21 v = -1) ∧ (C 15 6 = 0 ∧ C 15 7 = -1 ∧ C 15 8 = 0 ∧ C 15 9 = 0 ∧ C 15 10 = 0) ∧ (C 26 1 = 0 ∧ C 26 2 = 0 ∧ C 308 0 = 0) ∧ ∀ x : Nat, x ≠ 0 → x ≠ 2 → x ≠ 3 → x ≠ 5 → x ≠ 9 → x ≠ 10 → x ≠ 15 → x ≠ 16 → x ≠ 17 → x ≠ 18 → x ≠ 21 → x ≠ 26 → x ≠ 308 → C x = cm_DI I x := by
  have h1 := i_X8 (L := L) (s := s) (fr_I I 1)
  rw [RX_eq, show s + 700 + 14 + 7 + 0 + 400 + 12 + 12 + 96 + 11 + 401 + 400 + 400 + 6000 + 400 + 11 + 12 + 12 + 12 + 96 + 96 + 13 + 4 + 126 + 126 + 126 + 3 + 40 + 10080 + 6 + 11 + 401 + 400 + 400 + 6000 + 400 + 11 + 12 + 12 + 12 + 96 + 96 + 13 + 3 + 40 + 10080 + 11 + 12 + 12 + 12 + 96 + 96 + 13 + 1 + 400 = s + 38256 by omega] at h1
  generalize hD0 : cm_up (cm_DI I) 0 ((3 : Nat) : Int) (-1) = D0 at h1
  have d0 : D0 0 = cm_u1 (fun _ => 0) 3 (-1) := by
    rw [← hD0, up_same, DI_z I (by omega)]
    rfl
  have d : ∀ x : Nat, x ≠ 0 → D0 x = cm_DI I x := fun x hx => by rw [← hD0, up_row hx]
  obtain ⟨C1, g, e1, c2, c5, c5', c⟩ := rd_0 D0 (cm_z0, 613, s + 38256, L)
  have z : ∀ x : Nat, x ≠ 0 → x ≠ 2 → x ≠ 3 → x ≠ 5 → x ≠ 100000 → C1 x = fun _ => 0 := fun x h0 h2 h3 h5 h9 => by rw [c x h2 h3 h5, d x h0, DI_z I h9]
  have q2 : C1 2 4 = 200 ∧ C1 2 5 = 8 ∧ C1 2 6 = 1 ∧ C1 2 7 = 2 ∧ C1 2 13 = 0 := by
    rw [c2]
    exact ⟨rfl, rfl, rfl, rfl, rfl⟩
  obtain ⟨C, b1, b2, b3, b4, b5, b6, b7, b8⟩ := bg_0 (C := C1) (by rw [z 10 (by omega) (by omega) (by omega) (by omega) (by omega)]) q2.2.2.2.2 (by rw [c5]; exact c5') (cm_z0, 613, s + 38256, L)
  refine ⟨C, ?_, ?_, ?_, by rw [b8 2 (by omega) (by omega) (by omega) (by omega) (by omega) (by omega) (by omega) (by omega) (by omega)]; exact q2.2.2.2.2, b3, b4, b5, b6, b7, fun x h0 h2 h3 h5 h9 h10 h15 h16 h17 h18 h21 h26 h308 => ?_⟩
  · have e2 : cm_x 100 115 [some (.inr (.inr 0))] [] (cm_hA D0 (cm_z0, 613, s + 38256, L)) = some (.inl none, cm_hB C (cm_z0, 613, s + 38256, L)) := by
      rw [sX8_115, e1, aft_n, sX8_127, b1, aft_n, sX8_131]
    refine h1.trans (Eq.trans ?_ e2)
    rfl
  · rw [b8 0 (by omega) (by omega) (by omega) (by omega) (by omega) (by omega) (by omega) (by omega) (by omega), c 0 (by omega) (by omega) (by omega), d0]
  · rw [b2, z 9 (by omega) (by omega) (by omega) (by omega) (by omega), q2.1, q2.2.1, q2.2.2.1, q2.2.2.2.1]
  · rw [b8 x h9 h10 h15 h16 h17 h18 h21 h26 h308, c x h2 h3 h5, d x h0]
