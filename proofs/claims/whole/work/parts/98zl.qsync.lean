/-! sync: the call -/
variable {C D D1 D2 D3 E F : Nat → Int → Int} {X Y : cm_X} {h pk t : Int}
theorem sy_E (hex : ∃ E, R2 C E ∧ mHol E (plC C) ∧ E 613 26 = pkB (C 9 1) (cCon C + 1)) (X : cm_X) : ∃ v C', cm_x 133 0 [some (.inr (.inr 0)), none] [] (cm_hp C X) = some (.inl (some (.inl (v))), cm_hp C' X) ∧ fr2 C C' ∧ ∀ E Y, R2 C E → mHol E (plC C) → E 613 26 = pkB (C 9 1) (cCon C + 1) → ∃ w E', cm_x 211 0 [some (.inr (.inr 613)), none] [] (cm_hp E Y) = some (.inl (some (.inl w)), cm_hp E' Y) ∧ ((v = 1 ∧ w = 0) ∨ (v = 0 ∧ w ≠ 0)) ∧ R2 C' E' ∧ mFr E E' ∧ E' 613 27 = C' 15 9 - C 15 9 ∧ C 15 9 ≤ C' 15 9 ∧ eqB (C 15 9) (E 619) (E 620) (E' 619) (E' 620) := by
  obtain ⟨E0, g1, g2, g3⟩ := hex
  obtain ⟨v, C', w0, E0', a1, a2, a3, a4, a5, a6⟩ := sy_W g1 g2 g3 X X
  refine ⟨v, C', a1, a5, fun E Y h1 h2 h3 => ?_⟩
  obtain ⟨v2, C2, w, E', b1, b2, b3, b4, b5, b6⟩ := sy_W h1 h2 h3 X Y
  obtain ⟨q1, q2⟩ := hp_inj (a1.symm.trans b1)
  rw [← q1] at b3
  rw [← q2] at b4 b6
  exact ⟨w, E', b2, b3, b4, b6⟩
theorem tr_E (hex : ∃ E, R2 C E ∧ mHol E (plC C) ∧ E 613 26 = pkB (C 9 1) (cCon C + 1)) {x : Int} (x0 : 0 ≤ x) (x1 : x ≤ 1000000) (X : cm_X) : ∃ C', cm_x 137 0 [some (.inr (.inr 0)), some (.inl (x))] [] (cm_hp C X) = some (.inl none, cm_hp C' X) ∧ fr2 C C' ∧ ∀ E Y, R2 C E → mHol E (plC C) → E 613 26 = pkB (C 9 1) (cCon C + 1) → ∃ E', cm_x 213 0 [some (.inr (.inr 613)), some (.inl (x))] [] (cm_hp E Y) = some (.inl none, cm_hp E' Y) ∧ R2 C' E' ∧ mFr E E' ∧ E' 613 27 = C' 15 9 - C 15 9 ∧ C 15 9 ≤ C' 15 9 ∧ eqB (C 15 9) (E 619) (E 620) (E' 619) (E' 620) := by
  obtain ⟨E0, g1, g2, g3⟩ := hex
  obtain ⟨C', E0', a1, a2, a4, a5, a6⟩ := tr_W g1 g2 g3 x0 x1 X X
  refine ⟨C', a1, a5, fun E Y h1 h2 h3 => ?_⟩
  obtain ⟨C2, E', b1, b2, b4, b5, b6⟩ := tr_W h1 h2 h3 x0 x1 X Y
  have q2 := hp_inn (a1.symm.trans b1)
  rw [← q2] at b4 b6
  exact ⟨E', b2, b4, b6⟩
theorem R2_Rc (h : R2 C E) (hc : ∀ x : Nat, x < 613 → E x = C x) : Rc E := by
  obtain ⟨h1, h2, h3, ⟨h4, h5, h6⟩, h7, h8⟩ := h
  have e9 := hc 9 (by omega)
  have e15 := hc 15 (by omega)
  have ha : agS (stt E 15) (stt C 15) := agS_of fun j hj => hc _ (by omega)
  unfold Rc
  rw [e9, e15, hc 10 (by omega), h4, h5]
  exact ⟨dOk_of (by rw [e9]) (by rw [e9]) (by rw [e9]) (by rw [e9]) (hc 11 (by omega)) (hc 12 (by omega)) (hc 13 (by omega)) h1, h2, h3, h6, rS_ag ha h8.1 h7, wS_ag ha h8⟩
theorem Rc_R2 (h : Rc D) : R2 D D := ⟨h.1, h.2.1, h.2.2.1, ⟨rfl, rfl, h.2.2.2.1⟩, h.2.2.2.2.1, h.2.2.2.2.2⟩
/-- another heap for the reference, with the same numbers -/
theorem R2_m (h : R2 C E) (e4 : F 614 = E 614) (e5 : F 615 = E 615) (e7 : F 617 = E 617) (e9 : F 619 = E 619) (e0 : F 620 = E 620) (e1 : F 613 21 = E 613 21) : R2 C F := by
  unfold R2
  rw [e4, e5, e7, e9, e0, e1]
  exact h
/-- the class has kept the act: both -/
theorem R2_k (hR : R D t) (hk : KP D D1) (hr1 : rS (stt D1 15) (D1 617)) (hw1 : wS (D 9 1) (D 619) (D 620) (stt D1 15)) (hd1 : dOk D1 (D 619) (D 620) (D 15 9)) : R2 D1 D := by
  have hc := hR.1
  have e9 := KP_o hR hk (x := 9) (by omega)
  have e15 := KP_o hR hk (x := 15) (by omega)
  have q : rS (stt D1 15) (D 617) := by rw [← KP_o hR hk (x := 617) (by omega)]; exact hr1
  unfold R2
  rw [e9, e15, KP_o hR hk (x := 10) (by omega), KP_o hR hk (x := 614) (by omega), KP_o hR hk (x := 615) (by omega)]
  exact ⟨hd1, hc.2.1, hc.2.2.1, ⟨rfl, rfl, hc.2.2.2.1⟩, q, hw1⟩
theorem act2 (hR : R D t) (hk : KP D D1) (h3 : fr2 D1 D3) (h2 : R2 D3 E) (hc : ∀ x : Nat, x < 613 → E x = D3 x) (e29 : E 613 29 = (if D 26 2 < 40 then D 26 2 + 1 else 40)) (e626 : ∀ j, 0 ≤ j → j < 246 * (if D 26 2 < 40 then D 26 2 + 1 else 40) → E 626 j = kpP (D 626) (D 617) (D 26 2) j) (e613 : ∀ j, j ≠ 0 → j ≠ 25 → j ≠ 26 → j ≠ 27 → j ≠ 29 → E 613 j = D 613 j) (ex : ∀ x : Nat, 613 < x → x ≠ 617 → x ≠ 619 → x ≠ 620 → x ≠ 622 → x ≠ 623 → x ≠ 624 → x ≠ 626 → E x = D x) (eb : eqB (D 15 9) (D 619) (D 620) (E 619) (E 620)) (hh : D 15 9 ≤ E 15 9) : R E (t + 400) ∧ E 100000 = D 100000 := by
  have y : ∀ x : Nat, (x < 11 ∨ x = 14 ∨ (308 ≤ x ∧ x < 613)) → E x = D x := fun x hx => by rw [hc x (by omega), h3 x (by omega), KP_o hR hk (by omega)]
  have y26 : E 26 = D1 26 := by rw [hc 26 (by omega), h3 26 (by omega)]
  have hnx := hR.2.1.1.1
  refine ⟨act_R hR (R2_Rc h2 hc) ?_ (fun q q0 q1 hq => ?_) (by rw [y26]; exact hk.2.1) (by rw [y26]; exact hk.2.2.1) (by rw [e29, y26]; exact hk.2.2.1.symm) e626 eb hh ⟨fun a ha => ?_, ?_, ?_⟩, ex _ (by omega) (by omega) (by omega) (by omega) (by omega) (by omega) (by omega) (by omega)⟩
  · refine agS_tr (agS_of fun j hj => ?_) hk.1
    have hra : 28 ≤ adr (D 26 1) ∧ adr (D 26 1) + 7 ≤ 308 := by unfold adr; omega
    show E (adr (D 26 1) + j) = D1 (adr (D 26 1) + j)
    rw [hc _ (by omega), h3 _ (by omega)]
  · refine agS_of fun j hj => ?_
    have hqa : adr q + 7 ≤ adr (D 26 1) ∨ adr (D 26 1) + 7 ≤ adr q := by unfold adr; omega
    have hqb : 28 ≤ adr q ∧ adr q + 7 ≤ 308 := by unfold adr; omega
    show E (adr q + j) = D (adr q + j)
    rw [hc _ (by omega), h3 _ (by omega), hk.2.2.2 _ (by omega) (by omega)]
  · unfold oRow at ha
    by_cases h6 : a < 613
    · exact y a (by omega)
    · exact ex a (by omega) (by omega) (by omega) (by omega) (by omega) (by omega) (by omega) (by omega)
  · rw [y 9 (by omega)]; exact ⟨rfl, rfl, rfl⟩
  · exact ⟨e613 9 (by omega) (by omega) (by omega) (by omega) (by omega), e613 18 (by omega) (by omega) (by omega) (by omega) (by omega), e613 33 (by omega) (by omega) (by omega) (by omega) (by omega), e613 34 (by omega) (by omega) (by omega) (by omega) (by omega)⟩
/-- whether it may begin: the reference, beside the class that has kept the act -/
theorem mb2 (hR : R D t) (hk : KP D D1) (hk2 : R2 D1 D) (hfr : ∀ x : Nat, 308 ≤ x → D2 x = D1 x) (Y : cm_X) : ∃ E1, cm_x 205 0 [some (.inr (.inr 613))] [] (cm_hp (cm_up D2 613 0 0) Y) = some (.inl (some (.inl (tv (canB D)))), cm_hp E1 Y) ∧ R2 D1 E1 ∧ mHol E1 (plC D1) ∧ E1 613 26 = pkB (D1 9 1) (cCon D1 + 1) ∧ fL (cm_up D2 613 0 0) E1 := by
  have hc := hR.1
  have gd := d_g hc.1
  have hfD : ∀ x : Nat, 308 ≤ x → D2 x = D x := fun x hx => by rw [hfr x hx, KP_o hR hk (by omega)]
  have e15 := KP_o hR hk (x := 15) (by omega)
  have x614 : (cm_up D2 613 0 0) 614 = D 614 := hfD 614 (by omega)
  have x617 : (cm_up D2 613 0 0) 617 = D 617 := hfD 617 (by omega)
  obtain ⟨E1, a1, a2, a3, a4⟩ := ev_mCanBegin (D := D1) (E := cm_up D2 613 0 0) (X := Y) hk2.1.1 (by rw [x617]; exact hk2.2.2.2.2.1) hk2.2.2.2.2.2.1 (by rw [x614]; exact hk2.2.1) (by rw [e15]; exact gd.2.2.1) (by rw [e15]; exact gd.2.2.2)
  obtain ⟨E1', b1, -, -, -⟩ := ev_mCanBegin (D := D) (E := cm_up D2 613 0 0) (X := Y) hc.1.1 (by rw [x617]; exact hc.2.2.2.2.1) hc.2.2.2.2.2.1 (by rw [x614]; exact hc.2.1) gd.2.2.1 gd.2.2.2
  have hq := (hp_inj (a1.symm.trans b1)).1
  rw [hq] at a1
  refine ⟨E1, a1, R2_m hk2 ?_ ?_ ?_ ?_ ?_ ?_, a2, a3, a4⟩
  · rw [a4.2 614 (by omega) (by omega) (by omega)]; exact x614
  · rw [a4.2 615 (by omega) (by omega) (by omega)]; exact hfD 615 (by omega)
  · rw [a4.2 617 (by omega) (by omega) (by omega)]; exact x617
  · rw [a4.2 619 (by omega) (by omega) (by omega)]; exact hfD 619 (by omega)
  · rw [a4.2 620 (by omega) (by omega) (by omega)]; exact hfD 620 (by omega)
  · rw [a4.1 21 (by omega) (by omega)]
    show D2 613 21 = _
    rw [hfD 613 (by omega)]
/-- a refused act, the reference having looked ahead -/
theorem rf3 (hR : R D t) (h : ∀ a : Nat, a ≠ 613 → a ≠ 619 → a ≠ 620 → a ≠ 622 → a ≠ 623 → a ≠ 624 → E a = (cm_up D 0 9 (cm_wr (D 0 9 + 1))) a) (h6 : ∀ j, j ≠ 0 → j ≠ 25 → j ≠ 26 → j ≠ 27 → E 613 j = D 613 j) (eb : eqB (D 15 9) (D 619) (D 620) (E 619) (E 620)) : R (cm_up E 616 1 (cm_wr (E 616 1 + 1))) (t + 400) ∧ (cm_up E 616 1 (cm_wr (E 616 1 + 1))) 100000 = D 100000 := by
  have e616 : E 616 = D 616 := by rw [h 616 (by omega) (by omega) (by omega) (by omega) (by omega) (by omega)]; rfl
  have hr := rf_R hR
  have r6 : ∀ j, j ≠ 0 → (rfE D) 613 j = D 613 j := fun j hj => by
    show (cm_u1 (D 613) 0 0) j = _
    rw [u1_ne hj]
  refine ⟨R_up hr (fun a ha a1 a2 => ?_) ?_ ?_ eb ?_, ?_⟩
  · unfold cRow at ha
    by_cases h1 : a = 616
    · rw [h1, up_same, e616]
      show _ = (cm_up (cm_up (cm_up D 0 9 (cm_wr (D 0 9 + 1))) 613 0 0) 616 1 (cm_wr (D 616 1 + 1))) 616
      rw [up_same, up_row (by omega), up_row (by omega)]
    · rw [up_row h1, h a (by omega) a1 a2 (by omega) (by omega) (by omega)]
      show _ = (cm_up (cm_up (cm_up D 0 9 (cm_wr (D 0 9 + 1))) 613 0 0) 616 1 (cm_wr (D 616 1 + 1))) a
      rw [up_row h1, up_row (a := 613) (by omega)]
  · rw [up_row (by omega), h 9 (by omega) (by omega) (by omega) (by omega) (by omega) (by omega)]
    exact ⟨rfl, rfl, rfl, rfl⟩
  · rw [up_row (by omega), r6 9 (by omega), r6 18 (by omega), r6 21 (by omega), r6 29 (by omega), r6 33 (by omega), r6 34 (by omega)]
    exact ⟨h6 9 (by omega) (by omega) (by omega) (by omega), h6 18 (by omega) (by omega) (by omega) (by omega), h6 21 (by omega) (by omega) (by omega) (by omega), h6 29 (by omega) (by omega) (by omega) (by omega), h6 33 (by omega) (by omega) (by omega) (by omega), h6 34 (by omega) (by omega) (by omega) (by omega)⟩
  · have := hr.2.2.2.2
    unfold lkOk at *
    rw [up_row (by omega), up_row (by omega), h 9 (by omega) (by omega) (by omega) (by omega) (by omega) (by omega), h 14 (by omega) (by omega) (by omega) (by omega) (by omega) (by omega)]
    exact this
  · rw [up_row (by omega), h 100000 (by omega) (by omega) (by omega) (by omega) (by omega) (by omega)]
    rfl
theorem q_sync (hR : R D t) (X : cm_X) : MM t D X (fun H => cm_x 130 0 [some (.inr (.inr 0)), none] [] H) (fun H => cm_x 252 0 [some (.inr (.inr 613))] [] H) := by
  have hc := hR.1
  have hd := hc.1
  have hr := hc.2.2.2.2.1
  have hw := hc.2.2.2.2.2
  have gd := d_g hd
  have hh0 := gd.2.2.1
  have hh4 := gd.2.2.2
  by_cases hq : canB D
  · obtain ⟨D1, k1, hk, hr1, hw1, hd1⟩ := kp_run hR X
    have hk2 := R2_k hR hk hr1 hw1 hd1
    have e15 := KP_o hR hk (x := 15) (by omega)
    obtain ⟨Eg, -, g1, g2, g3, -⟩ := mb2 hR hk hk2 (D2 := D1) (fun _ _ => rfl) X
    obtain ⟨v, D3, s1, s2, s3⟩ := sy_E ⟨Eg, g1, g2, g3⟩ X
    refine ⟨if v = 0 then -2 else cm_wr (D3 15 9 - D 15 9), D3, ?_, fun Y => ?_⟩
    · show cm_x 130 0 [some (.inr (.inr 0)), none] [] (cm_hp D X) = _
      rw [sg_X8_sync_0, ev_canBegin hd.1 hw.1 hh0 hh4, aft_v, sg_X8_sync_4, tv_t hq, if_neg (by omega), k1, aft_n, sg_X8_sync_23, s1, aft_v, sg_X8_sync_35, e15]
      by_cases hv : v = 0
      · rw [if_pos hv, if_pos hv]
      · rw [if_neg hv, if_neg hv]
    · have hfr : ∀ x : Nat, 308 ≤ x → D3 x = D1 x := fun x hx => s2 x (by omega)
      have hfD : ∀ x : Nat, 308 ≤ x → D3 x = D x := fun x hx => by rw [hfr x hx, KP_o hR hk (by omega)]
      obtain ⟨E1, m1, m2, m3, m4, m5⟩ := mb2 hR hk hk2 hfr Y
      have e29 : E1 613 29 = D 26 2 := by
        rw [m5.1 29 (by omega) (by omega)]
        show D3 613 29 = _
        rw [hfD 613 (by omega)]
        exact hR.2.1.2
      have hcn := hR.2.1.1.2.1
      obtain ⟨g, n1, n2⟩ := ev_mKeep (D := E1) (X := Y) (by omega) (by omega)
      have x626 : E1 626 = D 626 := by rw [m5.2 626 (by omega) (by omega) (by omega)]; exact hfD 626 (by omega)
      have x617 : E1 617 = D 617 := by rw [m5.2 617 (by omega) (by omega) (by omega)]; exact hfD 617 (by omega)
      rw [e29] at n1 n2
      rw [x626, x617] at n2
      generalize hE2 : cm_up (u26 E1 g) 613 29 (if D 26 2 < 40 then D 26 2 + 1 else 40) = E2 at n1
      have y613 : E2 613 = cm_u1 (E1 613) 29 (if D 26 2 < 40 then D 26 2 + 1 else 40) := by rw [← hE2, up_same]; rfl
      have y626 : E2 626 = g := by rw [← hE2]; rfl
      have yx : ∀ x : Nat, x ≠ 613 → x ≠ 626 → E2 x = E1 x := fun x h1 h3 => by rw [← hE2, up_row h1]; unfold u26; rw [ua_row h3]
      have z2 : R2 D1 E2 := R2_m m2 (yx _ (by omega) (by omega)) (yx _ (by omega) (by omega)) (yx _ (by omega) (by omega)) (yx _ (by omega) (by omega)) (yx _ (by omega) (by omega)) (by rw [y613, u1_ne (by omega)])
      have z3 : mHol E2 (plC D1) := ⟨by rw [y613, u1_ne (by omega)]; exact m3.1, fun t x hx => by rw [yx 622 (by omega) (by omega), yx 623 (by omega) (by omega)]; exact m3.2 t x hx⟩
      obtain ⟨w, E', w1, w2, w3, w4, w5, w6, w7⟩ := s3 E2 Y z2 z3 (by rw [y613, u1_ne (by omega)]; exact m4)
      have hb3 := d_g w3.1
      have hwr : cm_wr (D3 15 9 - D 15 9) = D3 15 9 - D 15 9 := by
        have := hb3.2.2
        exact cm_wr_id (by omega) (by omega)
      have hcE : ∀ x : Nat, x < 613 → E' x = D3 x := fun x hx => by
        rw [w4.2 x (by omega) (by omega) (by omega) (by omega) (by omega), yx x (by omega) (by omega), m5.2 x (by omega) (by omega) (by omega), up_row (by omega)]
      have h13 : ∀ j, j ≠ 0 → j ≠ 25 → j ≠ 26 → j ≠ 27 → j ≠ 29 → E' 613 j = D 613 j := fun j a b c d e => by
        rw [w4.1 j d, y613, u1_ne e, m5.1 j b c, up_same, u1_ne a, hfD 613 (by omega)]
      have eqD : eqB (D 15 9) (D 619) (D 620) (E2 619) (E2 620) := by
        rw [yx 619 (by omega) (by omega), yx 620 (by omega) (by omega), m5.2 619 (by omega) (by omega) (by omega), m5.2 620 (by omega) (by omega) (by omega), up_row (by omega), up_row (by omega), hfD 619 (by omega), hfD 620 (by omega)]
        exact eqB_rf
      obtain ⟨u1, u2⟩ := act2 hR hk s2 w3 hcE (by rw [w4.1 29 (by omega), y613, u1_eq]) (fun j j0 j1 => by rw [w4.2 626 (by omega) (by omega) (by omega) (by omega) (by omega), y626]; exact n2 j j0 j1) h13 (fun x x1 x2 x3 x4 x5 x6 x7 x8 => by
        rw [w4.2 x (by omega) x2 x3 x4 x7, yx x (by omega) x8, m5.2 x (by omega) x5 x6, up_row (by omega), hfD x (by omega)]) (eqB_tr eqD (by rw [← e15]; exact w7)) (by rw [hcE 15 (by omega), ← e15]; exact w6)
      refine ⟨E', ?_, u1, u2⟩
      show cm_x 252 0 [some (.inr (.inr 613))] [] (cm_hp D3 Y) = _
      rw [sg_X9_sync_0, m1, aft_v, sg_X9_sync_9, tv_t hq, if_neg (by omega), n1, aft_n, sg_X9_sync_21, w1, aft_v, sg_X9_sync_25]
      rcases w2 with ⟨v1, v2⟩ | ⟨v1, v2⟩
      · rw [if_pos v2, if_neg (by omega), w5, e15, hwr]
      · rw [if_neg v2, if_pos v1]
  · refine ⟨-1, cm_up D 0 9 (cm_wr (D 0 9 + 1)), ?_, (fun Y => ?_)⟩
    · show cm_x 130 0 [some (.inr (.inr 0)), none] [] (cm_hp D X) = _
      rw [sg_X8_sync_0, ev_canBegin hd.1 hw.1 hh0 hh4, aft_v, sg_X8_sync_4, tv_f hq, if_pos rfl, sg_X8_refuse_0, aft_v, sg_X8_sync_11]
    · obtain ⟨E1, m1, m2, m3, m4⟩ := ev_mCanBegin (D := D) (E := cm_up (cm_up D 0 9 (cm_wr (D 0 9 + 1))) 613 0 0) (X := Y) hd.1 hr hw.1 hc.2.1 hh0 hh4
      obtain ⟨u1, u2⟩ := rf3 (E := E1) hR (fun a a1 a2 a3 a4 a5 a6 => by rw [m4.2 a a1 a4 a5, up_row a1]) (fun j j0 j1 j2 j3 => by
        rw [m4.1 j j1 j2, up_same, u1_ne j0]
        rfl) (by
        rw [m4.2 619 (by omega) (by omega) (by omega), m4.2 620 (by omega) (by omega) (by omega)]
        exact eqB_rf)
      refine ⟨_, ?_, u1, u2⟩
      show cm_x 252 0 [some (.inr (.inr 613))] [] (cm_hp (cm_up D 0 9 (cm_wr (D 0 9 + 1))) Y) = _
      rw [sg_X9_sync_0, m1, aft_v, sg_X9_sync_9, tv_f hq, if_pos rfl, sg_X9_refuse_0, aft_v, sg_X9_sync_16]
