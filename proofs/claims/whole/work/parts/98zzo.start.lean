/-! the law, to its loop -/
variable {L s : Nat} {Rf : Nat → Int → Nat} {C D E : Nat → Int → Int} {X : cm_X} {st : List cm_V}
theorem st0_R {f : Int → Int} (hE : E = cm_ua (cm_DM C) 617 f) (hn : nfF f) (c0 : C 0 = cm_u1 (fun _ => 0) 3 (-1)) (c9 : C 9 = cm_u1 (cm_u1 (cm_u1 (cm_u1 (fun _ => 0) 0 200) 1 8) 2 1) 3 2) (c2 : C 2 13 = 0) (c10 : C 10 0 = 0 ∧ ∀ b, 0 ≤ b → b < 400 → C 10 (b + 1) = C 10 b) (c16 : ∀ n, 0 ≤ n → n < 12 → C 16 n = 0 ∧ C 17 n = 0 ∧ C 18 n = 0) (c21 : ∀ v, 0 ≤ v → v < 13 → C 21 v = -1) (c15 : C 15 6 = 0 ∧ C 15 7 = -1 ∧ C 15 8 = 0 ∧ C 15 9 = 0 ∧ C 15 10 = 0) (c26 : C 26 1 = 0 ∧ C 26 2 = 0 ∧ C 308 0 = 0) (cz : ∀ x : Nat, x ≠ 0 → x ≠ 2 → x ≠ 3 → x ≠ 5 → x ≠ 9 → x ≠ 10 → x ≠ 15 → x ≠ 16 → x ≠ 17 → x ≠ 18 → x ≠ 21 → x ≠ 26 → x ≠ 308 → x < 634 → C x = fun _ => 0) : R E 0 := by
  obtain ⟨n1, n2, n3, n4, n5, n6, n7, n8⟩ := hn
  have e : ∀ x : Nat, x ≠ 613 → x ≠ 614 → x ≠ 617 → E x = C x := fun x h1 h2 h3 => by
    rw [hE, ua_row h3]
    unfold cm_DM
    simp (disch := omega) only [up_row]
  have e17 : E 617 = f := by rw [hE, ua_same]
  have z13 : C 613 = fun _ => 0 := cz 613 (by omega) (by omega) (by omega) (by omega) (by omega) (by omega) (by omega) (by omega) (by omega) (by omega) (by omega) (by omega) (by omega) (by omega)
  have e13 : E 613 = cm_u1 (cm_u1 (fun _ => 0) 18 (-1)) 21 (-1) := by
    rw [hE, ua_row (by omega)]
    unfold cm_DM
    simp (disch := omega) only [up_row, up_same]
    rw [z13]
    rfl
  have z14 : C 614 = fun _ => 0 := cz 614 (by omega) (by omega) (by omega) (by omega) (by omega) (by omega) (by omega) (by omega) (by omega) (by omega) (by omega) (by omega) (by omega) (by omega)
  have e14 : E 614 = cm_u1 (cm_u1 (cm_u1 (cm_u1 (cm_u1 (cm_u1 (cm_u1 (cm_u1 (cm_u1 (cm_u1 (fun _ => 0) 0 200) 1 8) 2 1) 3 2) 4 0) 5 200) 6 8) 7 1) 8 2) 9 0 := by
    rw [hE, ua_row (by omega)]
    unfold cm_DM
    simp (disch := omega) only [up_row, up_same]
    rw [z14]
  have z : ∀ x : Nat, x ≠ 0 → x ≠ 2 → x ≠ 3 → x ≠ 5 → x ≠ 9 → x ≠ 10 → x ≠ 15 → x ≠ 16 → x ≠ 17 → x ≠ 18 → x ≠ 21 → x ≠ 26 → x ≠ 308 → x ≠ 613 → x ≠ 614 → x ≠ 617 → x < 634 → E x = fun _ => 0 := fun x a0 a2 a3 a5 a9 a10 a15 a16 a17 a18 a21 a26 a308 a613 a614 a617 hx => (e x a613 a614 a617).trans (cz x a0 a2 a3 a5 a9 a10 a15 a16 a17 a18 a21 a26 a308 hx)
  have e0 := e 0 (by omega) (by omega) (by omega)
  have e9 := e 9 (by omega) (by omega) (by omega)
  have e10 := e 10 (by omega) (by omega) (by omega)
  have e2 := e 2 (by omega) (by omega) (by omega)
  have e15 := e 15 (by omega) (by omega) (by omega)
  have e26 := e 26 (by omega) (by omega) (by omega)
  have e308 := e 308 (by omega) (by omega) (by omega)
  have hT : tkQ E E (E 2 13) := by
    have q13 : E 2 13 = 0 := by rw [e2]; exact c2
    rw [q13]
    refine ⟨fun i i0 i1 => by omega, fun n n0 n1 _ => ?_, fun v v0 v1 => ?_, ?_, ?_, ?_, ?_, ?_, fun x _ => rfl⟩
    · rw [e 16 (by omega) (by omega) (by omega), e 17 (by omega) (by omega) (by omega), e 18 (by omega) (by omega) (by omega)]
      exact c16 n n0 n1
    · rw [e 21 (by omega) (by omega) (by omega)]; exact c21 v v0 v1
    · rw [q13, if_pos rfl, e15]; exact c15.1
    · rw [e15]; exact c15.2.1
    · rw [e15]; exact c15.2.2.1
    · rw [e15]; exact c15.2.2.2.1
    · rw [e15]; exact c15.2.2.2.2
  have q13 : E 2 13 = 0 := by rw [e2]; exact c2
  have hF : flR E (cm_ua (cm_ua E 613 (fun _ => 0)) 618 f) := by
    have g : (cm_ua (cm_ua E 613 (fun _ => 0)) 618 f) 618 = f := ua_same
    unfold flR
    rw [g, q13]
    refine ⟨rfl, by omega, fun i i0 i1 => by omega, fun n n0 n1' _ => n1 n n0 n1', n2, n3, ?_, n5, n6, n7, n8⟩
    rw [if_pos rfl]
    exact n4
  have hS := fun pk K B => st_R (pk := pk) (K := K) (B := B) (g := f) hT hF (fun j _ _ => by rw [ua_same])
  have h9 : E 15 9 = 0 := by rw [e15]; exact c15.2.2.2.1
  have q9 : ∀ j, E 9 j = (cm_u1 (cm_u1 (cm_u1 (cm_u1 (fun _ => 0) 0 200) 1 8) 2 1) 3 2 : Int → Int) j := fun j => by rw [e9, c9]
  have a0 : E 9 0 = 200 := by rw [q9]; rfl
  have a1 : E 9 1 = 8 := by rw [q9]; rfl
  have a2 : E 9 2 = 1 := by rw [q9]; rfl
  have a3 : E 9 3 = 2 := by rw [q9]; rfl
  have a10 : E 9 10 = 0 := by rw [q9]; rfl
  have z12 := z 12 (by omega) (by omega) (by omega) (by omega) (by omega) (by omega) (by omega) (by omega) (by omega) (by omega) (by omega) (by omega) (by omega) (by omega) (by omega) (by omega) (by omega)
  have z14' := z 14 (by omega) (by omega) (by omega) (by omega) (by omega) (by omega) (by omega) (by omega) (by omega) (by omega) (by omega) (by omega) (by omega) (by omega) (by omega) (by omega) (by omega)
  have z1 := z 1 (by omega) (by omega) (by omega) (by omega) (by omega) (by omega) (by omega) (by omega) (by omega) (by omega) (by omega) (by omega) (by omega) (by omega) (by omega) (by omega) (by omega)
  have z621 := z 621 (by omega) (by omega) (by omega) (by omega) (by omega) (by omega) (by omega) (by omega) (by omega) (by omega) (by omega) (by omega) (by omega) (by omega) (by omega) (by omega) (by omega)
  have z616 := z 616 (by omega) (by omega) (by omega) (by omega) (by omega) (by omega) (by omega) (by omega) (by omega) (by omega) (by omega) (by omega) (by omega) (by omega) (by omega) (by omega) (by omega)
  have p1 : E 26 1 = 0 := by rw [e26]; exact c26.1
  have p2 : E 26 2 = 0 := by rw [e26]; exact c26.2.1
  have p3 : E 308 0 = 0 := by rw [e308]; exact c26.2.2
  have o : ∀ j, E 0 j = (cm_u1 (fun _ => 0) 3 (-1) : Int → Int) j := fun j => by rw [e0, c0]
  have o1 : E 0 1 = 0 := by rw [o]; rfl
  refine ⟨⟨⟨⟨by omega, by omega, by omega, by omega, fun b _ _ => by rw [z12]; exact ⟨Int.le_refl 0, by show (0 : Int) ≤ 15; omega⟩⟩, ?_, ?_, ?_, ?_⟩, ?_, ⟨?_, fun b b0 b1 => ?_, ?_⟩, ?_, ?_, ?_⟩, ⟨⟨?_, ?_, fun k k0 k1 => ?_, fun q q0 q1 => ?_⟩, ?_⟩, ⟨Or.inl p3, ?_, fun zz => ?_⟩, ⟨?_, ?_, ?_, fun j _ _ => ?_, ?_, ?_⟩, ⟨?_, fun b _ _ => ?_⟩⟩
  · rw [h9]; exact fun b b0 b1 => by omega
  · rw [h9]; exact fun b b0 b1 => by omega
  · rw [h9]; omega
  · rw [h9]; omega
  · intro j j0 j1
    have hj : j = 0 ∨ j = 1 ∨ j = 2 ∨ j = 3 := by omega
    rcases hj with h | h | h | h
    · rw [h, a0, e14]; rfl
    · rw [h, a1, e14]; rfl
    · rw [h, a2, e14]; rfl
    · rw [h, a3, e14]; rfl
  · rw [e10]; exact c10.1
  · have w : E 614 4 = 0 := by rw [e14]; rfl
    rw [w, tv_f (fun ⟨k, k0, k1, _⟩ => by omega), Int.add_zero, e10]
    exact c10.2 b b0 b1
  · have w : E 614 4 = 0 := by rw [e14]; rfl
    rw [w]; omega
  · rw [e13]; rfl
  · rw [e17]; exact (hS 0 f f).1
  · exact (hS _ _ _).2
  · rw [p1]; omega
  · rw [p2]; omega
  · rw [p2] at k1; omega
  · have zr : ∀ j : Nat, j < 7 → stt E (adr q) j = fun _ => 0 := fun j hj => z (adr q + j) (by unfold adr; omega) (by unfold adr; omega) (by unfold adr; omega) (by unfold adr; omega) (by unfold adr; omega) (by unfold adr; omega) (by unfold adr; omega) (by unfold adr; omega) (by unfold adr; omega) (by unfold adr; omega) (by unfold adr; omega) (by unfold adr; omega) (by unfold adr; omega) (by unfold adr; omega) (by unfold adr; omega) (by unfold adr; omega) (by unfold adr; omega)
    refine ⟨Or.inl ?_, fun n _ _ => Or.inl ?_⟩
    · show stt E (adr q) 0 6 = 0
      rw [zr 0 (by omega)]
    · show stt E (adr q) 3 n = 0
      rw [zr 3 (by omega)]
  · rw [p2, e13]; rfl
  · rw [p3, e13]; rfl
  · rw [p3] at zz; omega
  · rw [o1, e13]; rfl
  · rw [o1]; omega
  · rw [o, e13]; rfl
  · rw [z1, z621]
    exact ⟨rfl, Int.le_refl 0, by show (0 : Int) ≤ 255; omega⟩
  · rw [o, z616]; rfl
  · rw [o, z616]; rfl
  · rw [a10]; omega
  · rw [a10, z14']; exact Int.le_refl 0
theorem L_0 (h : cm_H) : cm_x 293 0 [some (.inr (.inr 100000)), none, none, none, none, none, none, none] [] h = cm_nw h 8 14 [] (fun st h => cm_x 293 3 [some (.inr (.inr 100000)), none, none, none, none, none, none, none] st h) := (cm_un_eq [3] 293 1 0 _ _ _).symm.trans rfl
theorem L_3 (x : Nat) (h : cm_H) : cm_x 293 3 [some (.inr (.inr 100000)), none, none, none, none, none, none, none] [.inr (.inr x)] h = cm_x 293 4 [some (.inr (.inr 100000)), none, none, none, none, none, none, none] [.inr (.inr x), .inr (.inr x)] h := (cm_un_eq [4] 293 1 3 _ _ _).symm.trans rfl
theorem L_4 {ls : cm_L} (h : cm_H) : cm_x 293 4 ls st h = cm_cl cm_x 293 4 3 108 100 1 ls st h := by
  rw [cm_x_eq]
  rfl
theorem L_7 (x : Nat) (h : cm_H) : cm_x 293 7 [some (.inr (.inr 100000)), none, none, none, none, none, none, none] [.inr (.inr x)] h = cm_nw h 9 40 [] (fun st h => cm_x 293 11 [some (.inr (.inr 100000)), some (.inr (.inr x)), none, none, none, none, none, none] st h) := (cm_un_eq [11] 293 2 7 _ _ _).symm.trans rfl
theorem L_11 (y x : Nat) (h : cm_H) : cm_x 293 11 [some (.inr (.inr 100000)), some (.inr (.inr y)), none, none, none, none, none, none] [.inr (.inr x)] h = cm_x 293 12 [some (.inr (.inr 100000)), some (.inr (.inr y)), none, none, none, none, none, none] [.inr (.inr x), .inr (.inr x)] h := (cm_un_eq [12] 293 1 11 _ _ _).symm.trans rfl
theorem L_12 {ls : cm_L} (h : cm_H) : cm_x 293 12 ls st h = cm_cl cm_x 293 12 3 109 161 1 ls st h := by
  rw [cm_x_eq]
  rfl
theorem L_15 (y x : Nat) (h : cm_H) : cm_x 293 15 [some (.inr (.inr 100000)), some (.inr (.inr y)), none, none, none, none, none, none] [.inr (.inr x)] h = cm_na h 3 [.inl 1] (fun st h => cm_x 293 19 [some (.inr (.inr 100000)), some (.inr (.inr y)), some (.inr (.inr x)), none, none, none, none, none] st h) := (cm_un_eq [19] 293 3 15 _ _ _).symm.trans rfl
theorem L_19 (y x z : Nat) (h : cm_H) : cm_x 293 19 [some (.inr (.inr 100000)), some (.inr (.inr y)), some (.inr (.inr x)), none, none, none, none, none] [.inr (.inr z)] h = cm_x 293 23 [some (.inr (.inr 100000)), some (.inr (.inr y)), some (.inr (.inr x)), some (.inr (.inr z)), some (.inl (0)), none, none, none] [] h := (cm_un_eq [23] 293 3 19 _ _ _).symm.trans rfl
theorem X9_229 (D : Nat → Int → Int) (X : cm_X) : cm_x 161 229 [some (.inr (.inr 613))] [] (cm_hC D X) = cm_aft 161 233 236 [some (.inr (.inr 613))] [] (cm_x 166 0 [some (.inr (.inr 617))] [] (cm_hC D X)) := (cm_un_eq [236] 161 3 229 _ _ _).symm.trans rfl
theorem X9_236 (h : cm_H) : cm_x 161 236 [some (.inr (.inr 613))] [] h = some (.inl none, h) := (cm_un_eq [] 161 1 236 _ _ _).symm.trans rfl
theorem K_0 (L : Nat) (I : Int → Int) : cm_h0 L I = cm_cs L 0 cm_n4 (cm_DI I) 0 := by
  have e : (fun a => if a = 100000 then (1, L) else (9, 0)) = cm_Kk L 0 := by
    funext a
    unfold cm_Kk
    by_cases h : a = 100000
    · rw [if_pos h, if_pos (Or.inr h), h]
      rfl
    · rw [if_neg h, if_neg (by omega)]
  unfold cm_h0
  rw [e]
  rfl
theorem K_634 (L : Nat) : cm_Kk L 634 = cm_K0 L := by
  funext a
  unfold cm_Kk
  by_cases h : a < 634 ∨ a = 100000
  · rw [if_pos h]
  · rw [if_neg h]
    unfold cm_K0
    rw [if_neg (by omega), if_neg (by omega), if_neg (by omega), if_neg (by omega), if_neg (by omega), if_neg (by omega)]
theorem R0_633 : cm_R0 633 = fun _ => 400000 := rF_e
/-- the law's start -/
theorem law_start (L : Nat) (I : Int → Int) : ∃ E, cm_x 293 0 (cm_en [.inr (.inr 100000)] 8) [] (cm_h0 L I) = cm_x 293 23 [some (.inr (.inr 100000)), some (.inr (.inr 0)), some (.inr (.inr 613)), some (.inr (.inr 633)), some (.inl (0)), none, none, none] [] (cm_hp E (cm_z0, 634, 73303, L)) ∧ R E 0 ∧ E 100000 = I := by
  obtain ⟨C, k1, c0, c9, c2, c10, c16, c21, c15, c26, cz⟩ := cls_new L I 14
  have cf : cm_frs 613 (cm_R6 1) C := fun b h1 h2 => ⟨(by
    unfold cm_R6
    rw [if_neg (by omega), if_neg (by omega)]), (by
    rw [cz b (by omega) (by omega) (by omega) (by omega) (by omega) (by omega) (by omega) (by omega) (by omega) (by omega) (by omega) (by omega) (by omega)]
    exact DI_z I (by omega))⟩
  have k1 : cm_x 100 0 [some (.inr (.inr 0))] [] (cm_cs L 1 cm_n4 (cm_DI I) 14) = some (.inl none, cm_cs L 613 (cm_R6 1) C 38270) := k1
  have m1 := i_X9 (L := L) (s := 38310) (fr_m (k' := 614) cf (by omega))
  obtain ⟨f, l1, l2⟩ := ev_layC (E := cm_DM C) (X := (cm_z0, 633, 73302, L))
  have m2 : cm_x 161 0 [some (.inr (.inr 613))] [] (cm_cs L 614 (cm_R6 1) C 38310) = some (.inl none, cm_cs L 633 cm_R0 (cm_ua (cm_DM C) 617 f) 73302) := by
    refine m1.trans ?_
    show cm_x 161 229 [some (.inr (.inr 613))] [] (cm_hC (cm_DM C) (cm_z0, 633, 73302, L)) = some (.inl none, cm_hC (cm_ua (cm_DM C) 617 f) (cm_z0, 633, 73302, L))
    rw [X9_229, l1, aft_n, X9_236]
  generalize hE : cm_ua (cm_DM C) 617 f = E at m2
  have ez : E 633 = fun _ => 0 := by
    rw [← hE, ua_row (by omega)]
    unfold cm_DM
    simp (disch := omega) only [up_row]
    exact (cf 633 (by omega) (by omega)).2
  have ei : E 100000 = I := by
    rw [← hE, ua_row (by omega)]
    unfold cm_DM
    simp (disch := omega) only [up_row]
    rw [cz 100000 (by omega) (by omega) (by omega) (by omega) (by omega) (by omega) (by omega) (by omega) (by omega) (by omega) (by omega) (by omega) (by omega)]
    exact DI_i I
  have ef : cm_frs 633 cm_R0 E := fun b h1 h2 => by
    have hb : b = 633 := by omega
    rw [hb]
    exact ⟨R0_633, ez⟩
  refine ⟨E, ?_, ?_, ei⟩
  · show cm_x 293 0 [some (.inr (.inr 100000)), none, none, none, none, none, none, none] [] (cm_h0 L I) = _
    have call1 : cm_cl cm_x 293 4 3 108 100 1 [some (.inr (.inr 100000)), none, none, none, none, none, none, none] [.inr (.inr 0), .inr (.inr 0)] (cm_cs L 1 cm_n4 (cm_DI I) 14) = cm_aft 293 4 7 [some (.inr (.inr 100000)), none, none, none, none, none, none, none] [.inr (.inr 0)] (cm_x 100 0 [some (.inr (.inr 0))] [] (cm_cs L 1 cm_n4 (cm_DI I) 14)) := own_s (ci := 8) (a := 0) (by omega) rfl rfl rfl
    have call2 : cm_cl cm_x 293 12 3 109 161 1 [some (.inr (.inr 100000)), some (.inr (.inr 0)), none, none, none, none, none, none] [.inr (.inr 613), .inr (.inr 613)] (cm_cs L 614 (cm_R6 1) C 38310) = cm_aft 293 12 15 [some (.inr (.inr 100000)), some (.inr (.inr 0)), none, none, none, none, none, none] [.inr (.inr 613)] (cm_x 161 0 [some (.inr (.inr 613))] [] (cm_cs L 614 (cm_R6 1) C 38310)) := own_s (ci := 9) (a := 613) (by omega) rfl rfl rfl
    rw [K_0, L_0, nw_s (fr_I I 0) (by omega) rfl, L_3, L_4]
    refine call1.trans ?_
    rw [k1, aft_n, L_7, nw_s cf (by omega) rfl, L_11, L_12]
    refine call2.trans ?_
    rw [m2, aft_n, L_15, na_s (n := 1) (m := 1) ef (by omega) rfl rfl (by omega), L_19]
    unfold cm_cs
    rw [K_634]
    rfl
  · exact st0_R hE.symm l2 c0 c9 c2 c10 c16 c21 c15 c26 (fun x a0 a2 a3 a5 a9 a10 a15 a16 a17 a18 a21 a26 a308 hx => (cz x a0 a2 a3 a5 a9 a10 a15 a16 a17 a18 a21 a26 a308).trans (DI_z I (by omega)))
