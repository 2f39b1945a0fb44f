/-! disc: the call, the whole -/
variable {C C' D E E' F G : Nat → Int → Int} {X Y : cm_X} {K B g : Int → Int} {len pk t n : Int}
/-- a text with a fault: the relation -/
theorem R_ft (hR : R D t) (hx : ∀ x : Nat, (9 ≤ x ∧ x ≤ 308) ∨ x = 1 ∨ (308 ≤ x ∧ x < 604) ∨ x = 617 ∨ (619 ≤ x ∧ x ≤ 621) ∨ x = 626 ∨ (628 ≤ x ∧ x ≤ 632) → E x = D x) (h4 : ∀ j, j < 5 → E 614 j = D 614 j) (h5 : ∀ j, j < 12 → E 615 j = D 615 j) (h6 : ∀ j, j = 21 ∨ j = 29 ∨ j = 33 ∨ j = 34 → E 613 j = D 613 j) (t1 : E 0 1 = 0 ∧ E 613 9 = 0 ∧ E 613 18 = E 0 3 ∧ E 616 0 = E 0 8 ∧ E 616 1 = E 0 9) : R E (t + 400) := by
  obtain ⟨⟨d1, r2, r3, r4, r5, r6⟩, ⟨a1, a2⟩, i1, ⟨-, -, -, u4, -⟩, l1⟩ := hR
  have e9 := hx 9 (by omega)
  have e15 := hx 15 (by omega)
  have ha : agS (stt E 15) (stt D 15) := agS_of fun j hj => hx _ (by omega)
  have hln := rDk_ln d1.2.1
  refine ⟨?_, ⟨?_, ?_⟩, ?_, ⟨by rw [t1.1, t1.2.1], by rw [t1.1]; omega, t1.2.2.1, by rw [hx 1 (by omega), hx 621 (by omega)]; exact u4, t1.2.2.2.1, t1.2.2.2.2⟩, ?_⟩
  · unfold Rc
    rw [e9, e15, hx 619 (by omega), hx 620 (by omega), hx 617 (by omega), hx 10 (by omega), h4 4 (by omega), h6 21 (by omega)]
    refine ⟨dOk_of (by rw [e9]) (by rw [e9]) (by rw [e9]) (by rw [e9]) (hx 11 (by omega)) (hx 12 (by omega)) (hx 13 (by omega)) d1, fun j j0 j1 => by rw [h4 j (by omega)]; exact r2 j j0 j1, ⟨r3.1, fun b b0 b1 => ?_, r3.2.2⟩, r4, rS_ag ha r6.1 r5, wS_ag ha r6⟩
    rw [r3.2.1 b b0 b1]
    have hc := r3.2.2.2
    rw [tv_c (show flt (D 614 4) (D 615) b ↔ flt (D 614 4) (E 615) b from ⟨fun ⟨k, k0, k1, k2⟩ => ⟨k, k0, k1, by rw [h5 k (by omega)]; exact k2⟩, fun ⟨k, k0, k1, k2⟩ => ⟨k, k0, k1, by rw [h5 k (by omega)] at k2; exact k2⟩⟩)]
  · rw [e15, e9, hx 26 (by omega), hx 626 (by omega), hx 619 (by omega), hx 620 (by omega)]
    exact aG_eq eqB_rf hln d1.2.2.1 (fun q q0 q1 => agS_of fun j hj => hx _ (by unfold adr; omega)) (fun _ _ _ => rfl) (Int.le_refl _) a1
  · rw [h6 29 (by omega), hx 26 (by omega)]; exact a2
  · exact iR_hi (D := D) (fun x hxx => hx x (by omega)) (h6 33 (by omega)) (h6 34 (by omega)) i1
  · unfold lkOk
    rw [e9, hx 14 (by omega)]
    exact ⟨⟨l1.1.1, by have := l1.1.2; omega⟩, l1.2⟩
theorem q_disc (hR : R D t) (X : cm_X) (n : Int) : QQ t D X (fun H => cm_x 103 0 [some (.inr (.inr 0)), some (.inl (n))] [] H) (fun H => cm_x 181 0 [some (.inr (.inr 613)), some (.inl (n)), none] [] H) 1 := by
  obtain ⟨u1, u2, u3, u4, u5, u6⟩ := hR.2.2.2.1
  by_cases hn : 0 ≤ n ∧ n ≤ D 0 1
  case neg =>
    refine QQ_n hR (fun X => ?_) (fun X => ?_)
    · show cm_x 103 0 [some (.inr (.inr 0)), some (.inl (n))] [] (cm_hp D X) = _
      rw [sg_X8_disc_0]
      by_cases h0 : n < 0
      · rw [if_pos h0]
      · rw [if_neg h0, if_pos (by omega)]
    · show cm_x 181 0 [some (.inr (.inr 613)), some (.inl (n)), none] [] (cm_hp D X) = _
      rw [sg_X9_disc_0]
      by_cases h0 : n < 0
      · rw [if_pos h0, sg_X9_fail_0, aft_v, sg_X9_disc_22]
      · rw [if_neg h0, if_pos (by omega), sg_X9_fail_0, aft_v, sg_X9_disc_22]
  have hT : ∀ j, 0 ≤ j → j < 700 → D 621 j = (cm_up D 0 1 0) 1 j ∧ 0 ≤ (cm_up D 0 1 0) 1 j ∧ (cm_up D 0 1 0) 1 j ≤ 255 := fun j j0 j1 => by
    have z := u4 j j0 j1
    exact ⟨z.1.symm, z.2⟩
  -- a shadow of the reference
  obtain ⟨Eg, -, sg1, -⟩ := ev_mStart (C := cm_up D 0 1 0) (E := D) (X := X) (n := n) hn.1 (by omega) (by omega) hT
  obtain ⟨C', Eg', c1, -, c3, -, c5⟩ := rd_all sg1 X X
  have x0 : C' 0 = cm_u1 (D 0) 1 0 := by rw [c3 0 (by omega) (by omega) (by omega) (by omega) (by omega) (by omega), up_same]
  have xr : ∀ x : Nat, x ≠ 0 → x ≠ 2 → x ≠ 3 → x ≠ 5 → x ≠ 6 → x ≠ 7 → x ≠ 8 → C' x = D x := fun x h0 h2 h3 h5 h6 h7 h8 => by rw [c3 x h2 h3 h5 h6 h7 h8, up_row h0]
  have hcls : cm_x 103 0 [some (.inr (.inr 0)), some (.inl (n))] [] (cm_hp D X) = cm_x 103 39 [some (.inr (.inr 0)), some (.inl (n))] [] (cm_hp C' X) := by
    rw [sg_X8_disc_0, if_neg (by omega), if_neg (by omega), c1, aft_n]
  -- the reference behind a heap of the class
  have mdl : ∀ (D' : Nat → Int → Int) Y, (∀ x : Nat, 613 ≤ x → D' x = D x) → ∃ E1 E', cm_x 181 0 [some (.inr (.inr 613)), some (.inl (n)), none] [] (cm_hp D' Y) = cm_x 181 111 [some (.inr (.inr 613)), some (.inl (n)), none] [] (cm_hp E' Y) ∧ pE E1 E' ∧ ((pOk C' E' ∧ pD C' E' ∧ E' 613 12 = 0) ∨ pFt C' E') ∧ E1 613 0 = 0 ∧ E1 613 9 = 0 ∧ E1 613 18 = -1 ∧ (∀ j, j ≠ 0 → j ≠ 9 → j ≠ 10 → j ≠ 11 → j ≠ 16 → j ≠ 18 → j ≠ 19 → j ≠ 20 → E1 613 j = D 613 j) ∧ (∀ j, j < 5 → E1 614 j = D 614 j) ∧ ∀ x : Nat, x ≠ 613 → x ≠ 614 → x ≠ 618 → E1 x = D' x := fun D' Y hD => by
    obtain ⟨E1, s1, s2, s3, s4, s5, s6, s7, s8⟩ := ev_mStart (C := cm_up D 0 1 0) (E := D') (X := Y) (n := n) hn.1 (by rw [hD 613 (by omega)]; omega) (by rw [hD 613 (by omega)]; omega) (by rw [hD 621 (by omega)]; exact hT)
    obtain ⟨C2, E', d1, d2, d3, d4, d5⟩ := rd_all s2 X Y
    have hq := hp_inn (d1.symm.trans c1)
    rw [hq] at d5
    exact ⟨E1, E', by rw [s1, d2], d4, d5, s3, s4, s5, by rw [hD 613 (by omega)] at s6; exact s6, by rw [hD 614 (by omega)] at s7; exact s7, s8⟩
  by_cases hf : C' 2 1 = 0
  · -- no fault
    have hok : pOk C' Eg' ∧ pD C' Eg' ∧ Eg' 613 12 = 0 := c5.resolve_right (fun z => z.1 hf)
    have hdg := hok.2.1
    have h22 : C' 2 2 = -1 := hdg.1.1
    have h10 : (cm_up C' 0 3 (C' 2 2)) 10 0 = 0 := by
      show C' 10 0 = 0
      rw [xr 10 (by omega) (by omega) (by omega) (by omega) (by omega) (by omega) (by omega)]
      exact hR.1.2.2.1.1
    obtain ⟨D', A, n1, n2, n3, n4, n5, n6, n7⟩ := ev_anew (C := cm_up C' 0 3 (C' 2 2)) (F := Eg') h10 (flR_c hdg.2.2 rfl rfl rfl rfl rfl rfl) X
    have q2 : (cm_up C' 0 3 (C' 2 2)) 2 = C' 2 := rfl
    have q5 : (cm_up C' 0 3 (C' 2 2)) 5 = C' 5 := rfl
    have q9 : (cm_up C' 0 3 (C' 2 2)) 9 = C' 9 := rfl
    rw [q2, q9] at n2
    rw [q5] at n4
    rw [q2, q9] at n5
    have y0 : D' 0 = cm_u1 (cm_u1 (D 0) 1 0) 3 (-1) := by rw [n7 0 (by omega) (by omega) (by omega) (by omega) (by omega), up_same, x0, h22]
    have yD : ∀ x : Nat, x ≠ 0 → x ≠ 2 → x ≠ 3 → x ≠ 5 → x ≠ 6 → x ≠ 7 → x ≠ 8 → x ≠ 9 → x ≠ 10 → (x < 15 ∨ 22 ≤ x) → x ≠ 26 → x ≠ 308 → D' x = D x := fun x h0 h2 h3 h5 h6 h7 h8 h9 h10 h15 h26 h308 => by
      rw [n7 x h9 h10 h15 h26 h308, up_row h0, xr x h0 h2 h3 h5 h6 h7 h8]
    refine ⟨some 0, D', ?_, fun Y => ?_⟩
    · show cm_x 103 0 [some (.inr (.inr 0)), some (.inl (n))] [] (cm_hp D X) = some (.inl (some (.inl 0)), cm_hp D' X)
      rw [hcls, sg_X8_disc_39, if_pos hf, n1, aft_n, sg_X8_disc_82]
    · obtain ⟨E1, E', m1, m2, m3, m4, m5, m6, m7, m8, m9⟩ := mdl D' Y (fun x hx => yD x (by omega) (by omega) (by omega) (by omega) (by omega) (by omega) (by omega) (by omega) (by omega) (by omega) (by omega) (by omega))
      obtain ⟨hok2, hd2, h12⟩ := m3.resolve_right (fun z => z.1 hf)
      obtain ⟨g1, k1, k2⟩ := ev_mTk (E := E') (X := Y) (n := n)
      obtain ⟨g2, k3, k4⟩ := ev_mFk (E := cm_ua E' 614 g1) (X := Y) (n := n)
      obtain ⟨f, k5, k6⟩ := ev_ct_nf (D := cm_ua (cm_ua E' 614 g1) 615 g2) (X := Y)
      have z615 : (cm_ua E' 614 g1) 615 = E' 615 := rfl
      have z618 : (cm_ua (cm_ua E' 614 g1) 615 g2) 618 = E' 618 := rfl
      rw [z615] at k4
      rw [z618] at k6
      generalize hE2 : cm_up (cm_up (cm_ua (cm_ua (cm_ua E' 614 g1) 615 g2) 617 f) 613 29 0) 613 33 0 = E2
      have e614 : E2 614 = g1 := by rw [← hE2]; rfl
      have e615 : E2 615 = g2 := by rw [← hE2]; rfl
      have e617 : E2 617 = f := by rw [← hE2]; rfl
      have e613 : E2 613 = cm_u1 (cm_u1 (E' 613) 29 0) 33 0 := by rw [← hE2]; rfl
      have ex : ∀ x : Nat, x ≠ 613 → x ≠ 614 → x ≠ 615 → x ≠ 617 → E2 x = E' x := fun x a b c d => by rw [← hE2, up_row a, up_row a, ua_row d, ua_row c, ua_row b]
      have eD : ∀ x : Nat, x < 613 → E2 x = D' x := fun x hx => by rw [ex x (by omega) (by omega) (by omega) (by omega), m2.2.2.2 x (by omega) (by omega) (by omega) (by omega), m9 x (by omega) (by omega) (by omega)]
      have eD2 : ∀ x : Nat, 613 ≤ x → x ≠ 613 → x ≠ 614 → x ≠ 615 → x ≠ 617 → x ≠ 618 → E2 x = D x := fun x h a b c d e => by
        rw [ex x a b c d, m2.2.2.2 x a b c e, m9 x a b e, yD x (by omega) (by omega) (by omega) (by omega) (by omega) (by omega) (by omega) (by omega) (by omega) (by omega) (by omega) (by omega)]
      have j13 : ∀ j, j ≠ 29 → j ≠ 33 → j ≠ 10 → j ≠ 12 → j ≠ 13 → j ≠ 14 → j ≠ 15 → j ≠ 16 → j ≠ 17 → j ≠ 19 → j ≠ 20 → E2 613 j = E1 613 j := fun j a b c d e f g i k l o => by
        rw [e613, u1_ne b, u1_ne a, m2.1 j c d e f g i k l o]
      obtain ⟨w1, w2, w3, ⟨w4, w5, w6, w7⟩, w8, w9, w10, w11⟩ := hd2.1
      obtain ⟨v1, v2, v3⟩ := hd2.2.1
      have e9 : E2 9 = cm_u1 (cm_u1 (cm_u1 (cm_u1 (C' 9) 0 (C' 2 4)) 1 (C' 2 5)) 2 (C' 2 6)) 3 (C' 2 7) := by rw [eD 9 (by omega), n2]
      have p0 : E2 9 0 = C' 2 4 := by rw [e9]; rfl
      have p1 : E2 9 1 = C' 2 5 := by rw [e9]; rfl
      have p2 : E2 9 2 = C' 2 6 := by rw [e9]; rfl
      have p3 : E2 9 3 = C' 2 7 := by rw [e9]; rfl
      have p10 : E2 9 10 = D 9 10 := by
        rw [e9, u1_ne (by omega), u1_ne (by omega), u1_ne (by omega), u1_ne (by omega), xr 9 (by omega) (by omega) (by omega) (by omega) (by omega) (by omega) (by omega)]
      have g4 : g1 4 = C' 2 9 := by rw [k2 4 (by omega) (by omega)]; exact v1
      -- what is in mind
      have hfl : flR (cm_ua (cm_ua (cm_up C' 0 3 (C' 2 2)) 9 (cm_u1 (cm_u1 (cm_u1 (cm_u1 (C' 9) 0 (C' 2 4)) 1 (C' 2 5)) 2 (C' 2 6)) 3 (C' 2 7))) 10 A) E' := flR_c hd2.2.2 rfl rfl rfl rfl rfl rfl
      obtain ⟨hS1, hS2⟩ := st_R (pk := E2 9 1) (K := E2 619) (B := E2 620) n5 hfl k6
      have hag : agS (stt E2 15) (stt (cm_ua (cm_ua D' 26 ((cm_up C' 0 3 (C' 2 2)) 26)) 308 ((cm_up C' 0 3 (C' 2 2)) 308)) 15) := agS_of fun j hj => by
        show E2 (15 + j) = (cm_ua (cm_ua D' 26 _) 308 _) (15 + j)
        rw [ua_row (by omega), ua_row (by omega), eD _ (by omega)]
      have h159 : E2 15 9 = 0 := by rw [eD 15 (by omega)]; exact n5.2.2.2.2.2.2.1
      refine ⟨E2, ?_, ?_, disc_R hR (by rw [p0]; exact w8) (by rw [p1]; exact w9) (by rw [p2]; exact w10) (by rw [p3]; exact w11) p10 (fun j j0 j1 => ?_) ⟨?_, fun b b0 b1 => ?_, ?_, ?_⟩ ?_ ⟨by rw [e617]; exact rS_ag hag hS2.1 hS1, wS_ag hag hS2⟩ h159 ?_ ?_ ?_ ?_ (fun x x0' x1 => ?_) ⟨?_, ?_, ?_, ?_, ?_, ?_, ?_⟩ ?_ ?_, ?_⟩
      · show cm_x 181 0 [some (.inr (.inr 613)), some (.inl n), none] [] (cm_hp D' Y) = some (.inl (some (.inl 0)), cm_hp E2 Y)
        rw [m1, sg_X9_disc_111, if_pos hok2.2, if_pos h12, if_pos hok2.2, k1, k3, k5, aft_n, sg_X9_disc_229, hE2]
      · show E2 613 0 = 0
        rw [j13 0 (by omega) (by omega) (by omega) (by omega) (by omega) (by omega) (by omega) (by omega) (by omega) (by omega) (by omega)]; exact m4
      · rw [e614, k2 j j0 (by omega)]
        have h4 : j = 0 ∨ j = 1 ∨ j = 2 ∨ j = 3 := by omega
        rcases h4 with rfl | rfl | rfl | rfl
        · rw [p0]; exact w4
        · rw [p1]; exact w5
        · rw [p2]; exact w6
        · rw [p3]; exact w7
      · rw [eD 10 (by omega), n3]; exact n4.1
      · rw [eD 10 (by omega), n3, n4.2 b b0 b1, e614, g4, e615]
        obtain ⟨o1, o2⟩ := v3 b b0 b1
        have o3 : flt (C' 2 9) g2 b ↔ C' 5 b = 1 := by
          rw [o2]
          exact ⟨fun ⟨k, k0, k1', k2'⟩ => ⟨k, k0, k1', by rw [← k4 k k0 (by omega)]; exact k2'⟩, fun ⟨k, k0, k1', k2'⟩ => ⟨k, k0, k1', by rw [k4 k k0 (by omega)]; exact k2'⟩⟩
        rcases o1 with o1 | o1
        · rw [if_pos o1, tv_f (fun z => by have := o3.mp z; omega)]
        · rw [if_neg (by omega), tv_t (o3.mpr o1)]
      · rw [e614, g4]; exact v2.1
      · rw [e614, g4]; exact v2.2
      · rw [j13 21 (by omega) (by omega) (by omega) (by omega) (by omega) (by omega) (by omega) (by omega) (by omega) (by omega) (by omega), m7 21 (by omega) (by omega) (by omega) (by omega) (by omega) (by omega) (by omega) (by omega)]
        exact hR.1.2.2.2.1
      · rw [eD 26 (by omega)]; exact ⟨n6.1, n6.2.1⟩
      · rw [e613, u1_ne (by omega), u1_eq]
      · rw [eD 308 (by omega)]; exact n6.2.2
      · rw [e613, u1_eq]
      · rw [eD x (by omega), yD x (by omega) (by omega) (by omega) (by omega) (by omega) (by omega) (by omega) (by omega) (by omega) (by omega) (by omega) (by omega)]
      · rw [eD 0 (by omega), y0]; rfl
      · rw [j13 9 (by omega) (by omega) (by omega) (by omega) (by omega) (by omega) (by omega) (by omega) (by omega) (by omega) (by omega)]; exact m5
      · rw [j13 18 (by omega) (by omega) (by omega) (by omega) (by omega) (by omega) (by omega) (by omega) (by omega) (by omega) (by omega), m6, eD 0 (by omega), y0]; rfl
      · rw [eD 1 (by omega), yD 1 (by omega) (by omega) (by omega) (by omega) (by omega) (by omega) (by omega) (by omega) (by omega) (by omega) (by omega) (by omega)]
      · exact eD2 621 (by omega) (by omega) (by omega) (by omega) (by omega) (by omega)
      · rw [eD2 616 (by omega) (by omega) (by omega) (by omega) (by omega) (by omega), eD 0 (by omega), y0]; exact u5
      · rw [eD2 616 (by omega) (by omega) (by omega) (by omega) (by omega) (by omega), eD 0 (by omega), y0]; exact u6
      · rw [eD 14 (by omega), yD 14 (by omega) (by omega) (by omega) (by omega) (by omega) (by omega) (by omega) (by omega) (by omega) (by omega) (by omega) (by omega)]
      · rw [eD 12 (by omega), yD 12 (by omega) (by omega) (by omega) (by omega) (by omega) (by omega) (by omega) (by omega) (by omega) (by omega) (by omega) (by omega)]
      · exact eD2 100000 (by omega) (by omega) (by omega) (by omega) (by omega) (by omega)
  · -- a fault
    generalize hD' : cm_up (cm_up C' 0 3 (C' 2 2)) 0 8 (cm_wr (C' 0 8 + 1)) = D'
    have y0 : D' 0 = cm_u1 (cm_u1 (cm_u1 (D 0) 1 0) 3 (C' 2 2)) 8 (cm_wr (D 0 8 + 1)) := by
      rw [← hD', up_same, up_same, x0]
      rfl
    have yD : ∀ x : Nat, x ≠ 0 → x ≠ 2 → x ≠ 3 → x ≠ 5 → x ≠ 6 → x ≠ 7 → x ≠ 8 → D' x = D x := fun x h0 h2 h3 h5 h6 h7 h8 => by
      rw [← hD', up_row h0, up_row h0, xr x h0 h2 h3 h5 h6 h7 h8]
    refine ⟨some (C' 2 1), D', ?_, fun Y => ?_⟩
    · show cm_x 103 0 [some (.inr (.inr 0)), some (.inl (n))] [] (cm_hp D X) = some (.inl (some (.inl (C' 2 1))), cm_hp D' X)
      rw [hcls, sg_X8_disc_39, if_neg hf, hD']
    · obtain ⟨E1, E', m1, m2, m3, m4, m5, m6, m7, m8, m9⟩ := mdl D' Y (fun x hx => yD x (by omega) (by omega) (by omega) (by omega) (by omega) (by omega) (by omega))
      have hft := m3.resolve_left (fun z => hf z.1.1)
      have hb : ¬ E' 613 16 = 0 := by rw [hft.2.1]; exact hft.1
      generalize hE2 : cm_up (cm_up E' 613 18 (E' 613 17)) 616 0 (cm_wr (E' 616 0 + 1)) = E2
      have e613 : E2 613 = cm_u1 (E' 613) 18 (E' 613 17) := by rw [← hE2]; rfl
      have e616 : E2 616 = cm_u1 (E' 616) 0 (cm_wr (E' 616 0 + 1)) := by rw [← hE2]; rfl
      have ex : ∀ x : Nat, x ≠ 613 → x ≠ 616 → E2 x = E' x := fun x a b => by rw [← hE2, up_row b, up_row a]
      have eD : ∀ x : Nat, x ≠ 613 → x ≠ 614 → x ≠ 615 → x ≠ 616 → x ≠ 618 → E2 x = D' x := fun x a b c d e => by rw [ex x a d, m2.2.2.2 x a b c e, m9 x a b e]
      have e16 : E' 616 = D 616 := by rw [m2.2.2.2 616 (by omega) (by omega) (by omega) (by omega), m9 616 (by omega) (by omega) (by omega), yD 616 (by omega) (by omega) (by omega) (by omega) (by omega) (by omega) (by omega)]
      have j13 : ∀ j, j ≠ 18 → j ≠ 10 → j ≠ 12 → j ≠ 13 → j ≠ 14 → j ≠ 15 → j ≠ 16 → j ≠ 17 → j ≠ 19 → j ≠ 20 → E2 613 j = E1 613 j := fun j b c d e f g i k l o => by
        rw [e613, u1_ne b, m2.1 j c d e f g i k l o]
      refine ⟨E2, ?_, ?_, R_ft hR (fun x hx => ?_) (fun j hj => ?_) (fun j hj => ?_) (fun j hj => ?_) ⟨?_, ?_, ?_, ?_, ?_⟩, ?_⟩
      · show cm_x 181 0 [some (.inr (.inr 613)), some (.inl n), none] [] (cm_hp D' Y) = some (.inl (some (.inl (C' 2 1))), cm_hp E2 Y)
        rw [m1, sg_X9_disc_111, if_neg hb, if_neg hb, hE2, hft.2.1]
      · show E2 613 0 = 0
        rw [j13 0 (by omega) (by omega) (by omega) (by omega) (by omega) (by omega) (by omega) (by omega) (by omega) (by omega)]; exact m4
      · rw [eD x (by omega) (by omega) (by omega) (by omega) (by omega), yD x (by omega) (by omega) (by omega) (by omega) (by omega) (by omega) (by omega)]
      · rw [ex 614 (by omega) (by omega), m2.2.1 j hj, m8 j hj]
      · rw [ex 615 (by omega) (by omega), m2.2.2.1 j hj, m9 615 (by omega) (by omega) (by omega), yD 615 (by omega) (by omega) (by omega) (by omega) (by omega) (by omega) (by omega)]
      · rw [j13 j (by omega) (by omega) (by omega) (by omega) (by omega) (by omega) (by omega) (by omega) (by omega) (by omega), m7 j (by omega) (by omega) (by omega) (by omega) (by omega) (by omega) (by omega) (by omega)]
      · rw [eD 0 (by omega) (by omega) (by omega) (by omega) (by omega), y0]; rfl
      · rw [j13 9 (by omega) (by omega) (by omega) (by omega) (by omega) (by omega) (by omega) (by omega) (by omega) (by omega)]; exact m5
      · rw [e613, u1_eq, hft.2.2, eD 0 (by omega) (by omega) (by omega) (by omega) (by omega), y0]; rfl
      · rw [e616, u1_eq, e16, u5, eD 0 (by omega) (by omega) (by omega) (by omega) (by omega), y0]; rfl
      · rw [e616, u1_ne (by omega), e16, u6, eD 0 (by omega) (by omega) (by omega) (by omega) (by omega), y0]; rfl
      · rw [eD 100000 (by omega) (by omega) (by omega) (by omega) (by omega), yD 100000 (by omega) (by omega) (by omega) (by omega) (by omega) (by omega) (by omega)]
