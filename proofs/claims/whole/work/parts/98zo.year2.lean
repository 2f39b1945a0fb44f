/-! a year: the rest; years -/
variable {C C' C2 D E E' E2 F : Nat → Int → Int} {X Y : cm_X} {K B r : Int → Int} {h pk t : Int}
/-- a sync that is torn -/
theorem y_tea (h : R2 C E) (hs : E 613 31 = C 611 0) (X Y : cm_X) : ∃ C' E', cm_aft 156 90 93 [some (.inr (.inr 0)), some (.inl (5)), none] [] (cm_x 45 0 [some (.inr (.inr 611)), some (.inl (30))] [] (cm_hp C X)) = some (.inl none, cm_hp C' X) ∧ cm_aft 272 113 116 [some (.inr (.inr 613)), some (.inl (5)), none, none, none] [] (cm_x 271 0 [some (.inr (.inr 613)), some (.inl (30))] [] (cm_hp E Y)) = some (.inl none, cm_hp E' Y) ∧ yQ C E C' E' := by
  have y1 := y_dr h hs
  have n01 := drV_b (s := C 611 0) (n := 30) (by omega)
  have e1 : cm_x 45 0 [some (.inr (.inr 611)), some (.inl (30))] [] (cm_hp C X) = _ := ev_draw (by omega)
  have f1 : cm_x 271 0 [some (.inr (.inr 613)), some (.inl (30))] [] (cm_hp E Y) = _ := ev_mDraw (by omega)
  rw [hs] at f1
  generalize cm_up C 611 0 (drS (C 611 0)) = C3 at e1 y1
  generalize cm_up E 613 31 (drS (C 611 0)) = E3 at f1 y1
  generalize drV (C 611 0) 30 = x at n01 e1 f1
  have h3 := y1.1
  have gd := d_g h3.1
  have hn3 := h3.2.2.2.2.2.1
  rw [e1, aft_v, f1, aft_v, sg_X8_liveYear_93, sg_X9_happen_116]
  by_cases hb : canB C3
  · have ct := ev_canTear (X := X) h3.1.1 h3.2.2.1 hn3 gd.2.2.1 h3.1.2.2.2.1 n01.1 hb
    have eN : (fwN (cm_up C3 9 4 (fwN C3 (-1)).2) (-1)).1 = (fwN C3 (-1)).1 := rfl
    have eH : (cm_up C3 9 4 (fwN C3 (-1)).2) 15 9 = C3 15 9 := rfl
    have hbB : canB (cm_up C3 9 4 (fwN C3 (-1)).2) := hb
    have yB : yQ C E (cm_up C3 9 4 (fwN C3 (-1)).2) E3 := yQ_tr y1 ⟨R2_c h3 (fun z hz => up_row (by omega)) (fun j hj => by rw [up_same, u1_ne hj]), y1.2.1, ⟨fun z hz => up_row (by omega), fun j hj => by rw [up_same, u1_ne hj]⟩, ⟨fun _ _ _ _ _ => rfl, fun _ _ _ _ _ _ _ _ => rfl⟩, Int.le_refl _, eqB_rf⟩
    rw [ct, aft_v, sg_X8_liveYear_99]
    generalize cm_up C3 9 4 (fwN C3 (-1)).2 = B at eN eH hbB yB
    have hB := yB.1
    have gB := d_g hB.1
    obtain ⟨E1, m1, m2, m3, m4⟩ := ev_mCanBegin (D := B) (E := E3) (X := Y) hB.1.1 hB.2.2.2.2.1 hB.2.2.2.2.2.1 hB.2.1 gB.2.2.1 gB.2.2.2
    have hm : ∀ x : Nat, x ≠ 613 → x ≠ 622 → x ≠ 623 → E1 x = E3 x := m4.2
    have h1 : R2 B E1 := R2_m hB (hm _ (by omega) (by omega) (by omega)) (hm _ (by omega) (by omega) (by omega)) (hm _ (by omega) (by omega) (by omega)) (hm _ (by omega) (by omega) (by omega)) (hm _ (by omega) (by omega) (by omega)) (m4.1 21 (by omega) (by omega))
    obtain ⟨F, q1, q2, q3, q4, q5, q6⟩ := ev_mWould (D := B) (X := Y) h1.1.1 h1.2.2.1 h1.2.2.2.2.1 h1.2.2.2.2.2.1 h1.2.1 h1.2.2.2.1.1 h1.2.2.2.1.2.1 gB.2.2.1 gB.2.2.2 m2 m3
    rw [h1.2.2.2.1.2.2, eN, eH] at q1
    have eqF : eqB (B 15 9) (E1 619) (E1 620) (F 619) (F 620) := fun y y0 y1 => ⟨q4 y y1, fun i i0 i1 => q5 _ (by omega)⟩
    have hF2 : R2 B F := by
      obtain ⟨u1, u2, u3, ⟨u4, u5, u6⟩, u7, u8⟩ := h1
      obtain ⟨v1, v2, v3, v4, v5⟩ := u1
      have x614 := q6 614 (by omega) (by omega) (by omega) (by omega)
      have x615 := q6 615 (by omega) (by omega) (by omega) (by omega)
      unfold R2
      rw [x614, x615, q2, q3 21 (by omega)]
      exact ⟨⟨v1, rDk_eq eqF (fun _ _ _ => ⟨rfl, rfl, fun _ _ _ => rfl⟩) v2, vDk_eq eqF (rDk_ln v2) v3, v4, v5⟩, u2, u3, ⟨u4, u5, u6⟩, u7, wS_eq eqF (rDk_ln v2) v3 (Int.le_refl _) u8⟩
    have eq1 : eqB (B 15 9) (E3 619) (E3 620) (F 619) (F 620) := by
      rw [← hm 619 (by omega) (by omega) (by omega), ← hm 620 (by omega) (by omega) (by omega)]
      exact eqF
    have yF : yQ C E B F := yQ_tr yB ⟨hF2, by rw [q3 31 (by omega), m4.1 31 (by omega) (by omega)]; exact yB.2.1, ⟨fun _ _ => rfl, fun _ _ => rfl⟩, ⟨fun j a b c _ => by rw [q3 j c, m4.1 j a b], fun x a1 a2 a3 a4 a5 a6 a7 => by rw [q6 x a1 a3 a4 a7, hm x a1 a5 a6]⟩, Int.le_refl _, eq1⟩
    have hmF : mHol F (plC B) := ⟨by rw [q3 25 (by omega)]; exact m2.1, fun t z hz => by rw [q6 622 (by omega) (by omega) (by omega) (by omega), q6 623 (by omega) (by omega) (by omega) (by omega)]; exact m2.2 t z hz⟩
    rw [m1, aft_v, sg_X9_happen_121, tv_t hbB, if_neg (show ¬ (1 : Int) = 0 by omega), q1, aft_v, sg_X9_happen_129]
    by_cases hx : x < (fwN C3 (-1)).1 - C3 15 9
    · obtain ⟨C', E', a1, a2, a4, a5, a6, a7, a8, a9⟩ := tr_W hF2 hmF (by rw [q3 26 (by omega)]; exact m3) n01.1 (by omega) X Y
      refine ⟨C', E', ?_, ?_, yQ_tr yF ⟨a4, ?_, ⟨fun z hz => a5 z (by omega), fun j _ => by rw [a5 9 (by omega)]⟩, ⟨fun j _ _ c _ => a6.1 j c, fun z b1 b2 b3 b4 _ _ b7 => a6.2 z b1 b2 b3 b4 b7⟩, a8, a9⟩⟩
      · rw [tv_t hx, if_neg (by omega), a1, aft_n, sg_X8_liveYear_107, sg_X8_liveYear_140_1]
      · rw [if_pos hx, a2, aft_n, sg_X9_happen_137, sg_X9_happen_167_1]
      · rw [a6.1 31 (by omega), a5 611 (by omega)]; exact yF.2.1
    · refine ⟨B, F, ?_, ?_, yF⟩
      · rw [tv_f hx, if_pos rfl, sg_X8_liveYear_107, sg_X8_liveYear_140_1]
      · rw [if_neg hx, sg_X9_happen_137, sg_X9_happen_167_1]
  · obtain ⟨E1, m1, m2, m3, m4⟩ := ev_mCanBegin (D := C3) (E := E3) (X := Y) h3.1.1 h3.2.2.2.2.1 hn3 h3.2.1 gd.2.2.1 gd.2.2.2
    have hm : ∀ x : Nat, x ≠ 613 → x ≠ 622 → x ≠ 623 → E1 x = E3 x := m4.2
    have h1 : R2 C3 E1 := R2_m h3 (hm _ (by omega) (by omega) (by omega)) (hm _ (by omega) (by omega) (by omega)) (hm _ (by omega) (by omega) (by omega)) (hm _ (by omega) (by omega) (by omega)) (hm _ (by omega) (by omega) (by omega)) (m4.1 21 (by omega) (by omega))
    refine ⟨C3, E1, ?_, ?_, yQ_tr y1 ⟨h1, by rw [m4.1 31 (by omega) (by omega)]; exact y1.2.1, ⟨fun _ _ => rfl, fun _ _ => rfl⟩, ⟨fun j a b _ _ => m4.1 j a b, fun x a _ _ _ b c _ => hm x a b c⟩, Int.le_refl _, by rw [hm 619 (by omega) (by omega) (by omega), hm 620 (by omega) (by omega) (by omega)]; exact eqB_rf⟩⟩
    · rw [sg_X8_canTear_0, if_neg (by omega), ev_canBegin h3.1.1 hn3 gd.2.2.1 gd.2.2.2, aft_v, sg_X8_canTear_8, tv_f hb, if_pos rfl, aft_v, sg_X8_liveYear_99, if_pos rfl, sg_X8_liveYear_107, sg_X8_liveYear_140_1]
    · rw [m1, aft_v, sg_X9_happen_121, tv_f hb, if_pos rfl, sg_X9_happen_137, sg_X9_happen_167_1]
/-- a session is closed -/
theorem y_cls (h : R2 C E) (hs : E 613 31 = C 611 0) (a : Int) (X Y : cm_X) : ∃ C' E', cm_aft 156 115 118 [some (.inr (.inr 0)), some (.inl (a)), none] [] (cm_x 45 0 [some (.inr (.inr 611)), some (.inl (2))] [] (cm_hp C X)) = some (.inl none, cm_hp C' X) ∧ cm_aft 272 142 145 [some (.inr (.inr 613)), some (.inl (a)), none, none, none] [] (cm_x 271 0 [some (.inr (.inr 613)), some (.inl (2))] [] (cm_hp E Y)) = some (.inl none, cm_hp E' Y) ∧ yQ C E C' E' := by
  have y1 := y_dr h hs
  have n01 := drV_b (s := C 611 0) (n := 2) (by omega)
  have e1 : cm_x 45 0 [some (.inr (.inr 611)), some (.inl (2))] [] (cm_hp C X) = _ := ev_draw (by omega)
  have f1 : cm_x 271 0 [some (.inr (.inr 613)), some (.inl (2))] [] (cm_hp E Y) = _ := ev_mDraw (by omega)
  rw [hs] at f1
  generalize cm_up C 611 0 (drS (C 611 0)) = C3 at e1 y1
  generalize cm_up E 613 31 (drS (C 611 0)) = E3 at f1 y1
  generalize drV (C 611 0) 2 = x at n01 e1 f1
  have h3 := y1.1
  have hd := h3.1
  have gd := d_g h3.1
  have hr := h3.2.2.2.2.1
  have hw := h3.2.2.2.2.2
  obtain ⟨hz1, hz2, hz3, hz4, -⟩ := hd.1
  have q0 := h3.2.1 0 (by omega) (by omega)
  have q3 := h3.2.1 3 (by omega) (by omega)
  have hC : ∀ b : Int, cm_aft 156 129 132 [some (.inr (.inr 0)), some (.inl (a)), some (.inl (b))] [] (cm_x 139 0 [some (.inr (.inr 0))] [] (cm_hp C3 X)) = cm_x 156 132 [some (.inr (.inr 0)), some (.inl (a)), some (.inl (b))] [.inl (tv (canC C3))] (cm_hp C3 X) := fun b => by
    rw [ev_canClose gd.2.2.1 gd.2.2.2 (by omega), aft_v]
  have hE : ∀ b : Int, cm_aft 272 156 159 [some (.inr (.inr 613)), some (.inl (a)), some (.inl (b)), none, none] [] (cm_x 254 0 [some (.inr (.inr 613))] [] (cm_hp E3 Y)) = cm_x 272 159 [some (.inr (.inr 613)), some (.inl (a)), some (.inl (b)), none, none] [.inl (tv (canC C3))] (cm_hp E3 Y) := fun b => by
    rw [ev_mCanClose (D := C3) hr hw.1 q0 q3 gd.2.2.1 gd.2.2.2 (by omega), aft_v]
  have key : ∀ b : Int, ∃ C' E', cm_x 156 132 [some (.inr (.inr 0)), some (.inl (a)), some (.inl (b))] [.inl (tv (canC C3))] (cm_hp C3 X) = some (.inl none, cm_hp C' X) ∧ cm_x 272 159 [some (.inr (.inr 613)), some (.inl (a)), some (.inl (b)), none, none] [.inl (tv (canC C3))] (cm_hp E3 Y) = some (.inl none, cm_hp E' Y) ∧ yQ C E C' E' := fun b => by
    by_cases hq : canC C3
    · have hq2 := hq.2
      obtain ⟨C', c1, c2, c3, c4, c5⟩ := ev_closeS (D := C3) (X := X) (a := b) gd.2.2.1 (by omega) hq2 (by omega)
      obtain ⟨E', n1, n2, n3, n4, n5⟩ := ev_mClose (E := E3) (X := Y) (a := b) (h := C3 15 9) hr.2.2.2.2.2.2.1 gd.2.2.1 (by rw [q3]; omega) (by rw [q3]; omega)
      rw [q3] at n2 n3
      have z243 : E3 617 243 = C3 15 8 := hr.2.2.2.2.2.1
      rw [z243] at n3
      have s9 : C' 15 9 = C3 15 9 + C3 9 3 := by
        by_cases ha : b = 0
        · exact (c4.2 ha).2.2.2.2.2.1
        · exact (c4.1 ha).2.2.2.2.2.2.1
      have x9 := c5 9 (by omega) (by omega) (by omega)
      have x620 := n5 620 (by omega) (by omega) (by omega)
      obtain ⟨v1, v2⟩ := dOk_out (D' := C') (K' := E' 619) (n := C3 9 3) (k := 7) hd (by omega) (by omega) hq2 (by rw [x9]; exact ⟨rfl, rfl, rfl, rfl⟩) n2 c2 c3 (c5 13 (by omega) (by omega) (by omega))
      have hS : rS (stt C' 15) (E' 617) ∧ wS (C3 9 1) (E' 619) (E3 620) (stt C' 15) := by
        refine cl_R (S := stt C3 15) (r := E3 617) c4 n3 ?_ hr (wS_eq v2 (rDk_ln hd.2.1) hd.2.2.1 (Int.le_refl _) hw)
        show C3 15 9 ≤ C3 15 9 + C3 9 3
        omega
      refine ⟨C', E', ?_, ?_, yQ_tr y1 ⟨⟨?_, ?_, ?_, ⟨?_, ?_, ?_⟩, hS.1, ?_⟩, ?_, ⟨fun z hz => c5 z (by omega) (by omega) (by omega), fun j _ => by rw [x9]⟩, ⟨fun j _ _ c _ => n4 j c, fun z b1 b2 b3 _ _ _ _ => n5 z b1 b2 b3⟩, by rw [s9]; omega, by rw [x620]; exact v2⟩⟩
      · rw [sg_X8_liveYear_132, tv_t hq, if_neg (by omega), c1, aft_n, sg_X8_liveYear_140_1]
      · rw [sg_X9_happen_159, tv_t hq, if_neg (by omega), n1, aft_n, sg_X9_happen_167_1]
      · rw [x620, s9]; exact v1
      · rw [n5 614 (by omega) (by omega) (by omega), x9]; exact h3.2.1
      · rw [c5 10 (by omega) (by omega) (by omega), c5 614 (by omega) (by omega) (by omega), c5 615 (by omega) (by omega) (by omega)]; exact h3.2.2.1
      · rw [n5 614 (by omega) (by omega) (by omega), c5 614 (by omega) (by omega) (by omega)]; exact h3.2.2.2.1.1
      · rw [n5 615 (by omega) (by omega) (by omega), c5 615 (by omega) (by omega) (by omega)]; exact h3.2.2.2.1.2.1
      · rw [n4 21 (by omega)]; exact h3.2.2.2.1.2.2
      · rw [x620, x9]; exact hS.2
      · rw [n4 31 (by omega), c5 611 (by omega) (by omega) (by omega)]; exact y1.2.1
    · refine ⟨C3, E3, ?_, ?_, y1⟩
      · rw [sg_X8_liveYear_132, tv_f hq, if_pos rfl, sg_X8_liveYear_140_1]
      · rw [sg_X9_happen_159, tv_f hq, if_pos rfl, sg_X9_happen_167_1]
  rw [e1, aft_v, f1, aft_v, sg_X8_liveYear_118, sg_X9_happen_145, hC, hC, hE, hE]
  by_cases hx : x = 1
  · rw [if_pos hx, if_pos hx]; exact key 1
  · rw [if_neg hx, if_neg hx]; exact key 0
/-- one year -/
theorem y_one (h : R2 C E) (hs : E 613 31 = C 611 0) (X Y : cm_X) : ∃ C' E', cm_x 156 0 [some (.inr (.inr 0)), none, none] [] (cm_hp C X) = some (.inl none, cm_hp C' X) ∧ cm_x 272 0 [some (.inr (.inr 613)), none, none, none, none] [] (cm_hp E Y) = some (.inl none, cm_hp E' Y) ∧ yQ C E C' E' := by
  have y1 := y_dr h hs
  have n01 := drV_b (s := C 611 0) (n := 7) (by omega)
  have e1 : cm_x 45 0 [some (.inr (.inr 611)), some (.inl (7))] [] (cm_hp C X) = _ := ev_draw (by omega)
  have f1 : cm_x 271 0 [some (.inr (.inr 613)), some (.inl (7))] [] (cm_hp E Y) = _ := ev_mDraw (by omega)
  rw [hs] at f1
  generalize cm_up C 611 0 (drS (C 611 0)) = C3 at e1 y1
  generalize cm_up E 613 31 (drS (C 611 0)) = E3 at f1 y1
  generalize drV (C 611 0) 7 = x at n01 e1 f1
  have h3 := y1.1
  rw [sg_X8_liveYear_0, e1, aft_v, sg_X8_liveYear_9, sg_X9_happen_0, f1, aft_v, sg_X9_happen_6]
  by_cases a1 : x < 2
  · obtain ⟨C', E', b1, b2, b3⟩ := y_set h3 y1.2.1 x X Y
    refine ⟨C', E', ?_, ?_, yQ_tr y1 b3⟩
    · rw [if_neg (by omega), b1, aft_n, sg_X8_liveYear_19, sg_X8_liveYear_140]
    · rw [if_pos a1, b2]
  · rw [if_pos (by omega), if_neg a1]
    by_cases a2 : x = 2
    · rw [if_pos a2, if_pos a2, a2]
      obtain ⟨C', E', b1, b2, b3⟩ := y_era h3 y1.2.1 X Y
      exact ⟨C', E', b1, b2, yQ_tr y1 b3⟩
    · rw [if_neg a2, if_neg a2]
      by_cases a3 : x < 5
      · rw [if_neg (by omega), if_pos a3]
        obtain ⟨C', E', b1, b2, b3⟩ := y_syn h3 y1.2.1 x X Y
        exact ⟨C', E', b1, b2, yQ_tr y1 b3⟩
      · rw [if_pos (by omega), if_neg a3]
        by_cases a4 : x = 5
        · rw [if_pos a4, if_pos a4, a4]
          obtain ⟨C', E', b1, b2, b3⟩ := y_tea h3 y1.2.1 X Y
          exact ⟨C', E', b1, b2, yQ_tr y1 b3⟩
        · rw [if_neg a4, if_neg a4]
          obtain ⟨C', E', b1, b2, b3⟩ := y_cls h3 y1.2.1 x X Y
          exact ⟨C', E', b1, b2, yQ_tr y1 b3⟩
