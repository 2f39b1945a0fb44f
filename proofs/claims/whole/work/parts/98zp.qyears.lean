/-! years: the call -/
variable {C C' C2 D E E' E2 F : Nat → Int → Int} {X Y : cm_X} {K B r : Int → Int} {h pk t : Int}
theorem ev_ct_tn : ∃ f, cm_x 237 0 [some (.inr (.inr 627)), some (.inr (.inr 617)), none] [] (cm_hp D X) = some (.inl none, cm_hp (cm_ua D 627 f) X) ∧ ∀ j, 0 ≤ j → j < 246 → f j = D 617 j := by
  obtain ⟨f, L, P⟩ := lp_inv (X := fun i f => cm_x 237 2 [some (.inr (.inr 627)), some (.inr (.inr 617)), some (.inl (i))] [] (cm_hp (cm_ua D 627 f) X)) (P := fun i f => ∀ j, 0 ≤ j → j < i → f j = D 617 j) (lo := 0) (hi := 246) (fun i f i0 i1 hP => by
    refine ⟨cm_u1 f i (D 617 i), ?_, fun j j0 j1 => ?_⟩
    · show cm_x 237 2 [some (.inr (.inr 627)), some (.inr (.inr 617)), some (.inl (i))] [] (cm_hp (cm_ua D 627 f) X) = cm_x 237 2 [some (.inr (.inr 627)), some (.inr (.inr 617)), some (.inl (i + 1))] [] (cm_hp (cm_ua D 627 (cm_u1 f i (D 617 i))) X)
      have q : cm_ua D 627 f 617 = D 617 := rfl
      rw [sg_X9_copyTo_tn_2, if_pos i1, ck_t (by omega), ck_t (by omega), q, up_to_ua, ua_ua, ua_same, cm_wr_id (by omega) (by omega)]
    · by_cases hj : j = i
      · rw [hj, u1_eq]
      · rw [u1_ne hj]; exact hP j j0 (by omega)) (D 627) (by omega) (fun j j0 j1 => by omega)
  have L : cm_x 237 2 [some (.inr (.inr 627)), some (.inr (.inr 617)), some (.inl (0))] [] (cm_hp D X) = cm_x 237 2 [some (.inr (.inr 627)), some (.inr (.inr 617)), some (.inl (246))] [] (cm_hp (cm_ua D 627 f) X) := by
    have := L
    rw [ua_id] at this
    exact this
  refine ⟨f, ?_, P⟩
  rw [sg_X9_copyTo_tn_0, L, sg_X9_copyTo_tn_2, if_neg (by omega)]
theorem ev_ct_nt : ∃ f, cm_x 237 0 [some (.inr (.inr 617)), some (.inr (.inr 627)), none] [] (cm_hp D X) = some (.inl none, cm_hp (cm_ua D 617 f) X) ∧ ∀ j, 0 ≤ j → j < 246 → f j = D 627 j := by
  obtain ⟨f, L, P⟩ := lp_inv (X := fun i f => cm_x 237 2 [some (.inr (.inr 617)), some (.inr (.inr 627)), some (.inl (i))] [] (cm_hp (cm_ua D 617 f) X)) (P := fun i f => ∀ j, 0 ≤ j → j < i → f j = D 627 j) (lo := 0) (hi := 246) (fun i f i0 i1 hP => by
    refine ⟨cm_u1 f i (D 627 i), ?_, fun j j0 j1 => ?_⟩
    · show cm_x 237 2 [some (.inr (.inr 617)), some (.inr (.inr 627)), some (.inl (i))] [] (cm_hp (cm_ua D 617 f) X) = cm_x 237 2 [some (.inr (.inr 617)), some (.inr (.inr 627)), some (.inl (i + 1))] [] (cm_hp (cm_ua D 617 (cm_u1 f i (D 627 i))) X)
      have q : cm_ua D 617 f 627 = D 627 := rfl
      rw [sg_X9_copyTo_nt_2, if_pos i1, ck_t (by omega), ck_t (by omega), q, up_to_ua, ua_ua, ua_same, cm_wr_id (by omega) (by omega)]
    · by_cases hj : j = i
      · rw [hj, u1_eq]
      · rw [u1_ne hj]; exact hP j j0 (by omega)) (D 617) (by omega) (fun j j0 j1 => by omega)
  have L : cm_x 237 2 [some (.inr (.inr 617)), some (.inr (.inr 627)), some (.inl (0))] [] (cm_hp D X) = cm_x 237 2 [some (.inr (.inr 617)), some (.inr (.inr 627)), some (.inl (246))] [] (cm_hp (cm_ua D 617 f) X) := by
    have := L
    rw [ua_id] at this
    exact this
  refine ⟨f, ?_, P⟩
  rw [sg_X9_copyTo_nt_0, L, sg_X9_copyTo_nt_2, if_neg (by omega)]
theorem y_all {s n w : Int} (n60 : n ≤ 60) (hex : ∃ E0, R2 C E0 ∧ E0 613 31 = C 611 0) (X : cm_X) : ∀ k : Nat, (k : Int) ≤ n → ∃ C', cm_x 155 48 [some (.inr (.inr 0)), some (.inl (s)), some (.inl (n)), some (.inl (w)), some (.inl (0)), none, none] [] (cm_hp C X) = cm_x 155 48 [some (.inr (.inr 0)), some (.inl (s)), some (.inl (n)), some (.inl (w)), some (.inl ((k : Int))), none, none] [] (cm_hp C' X) ∧ ∀ E Y, R2 C E → E 613 31 = C 611 0 → ∃ E', cm_x 273 55 [some (.inr (.inr 613)), some (.inl (s)), some (.inl (n)), some (.inl (w)), some (.inl (0))] [] (cm_hp E Y) = cm_x 273 55 [some (.inr (.inr 613)), some (.inl (s)), some (.inl (n)), some (.inl (w)), some (.inl ((k : Int)))] [] (cm_hp E' Y) ∧ yQ C E C' E' := by
  obtain ⟨E0, g1, g2⟩ := hex
  intro k
  induction k with
  | zero => intro _; exact ⟨C, rfl, fun E Y h hs => ⟨E, rfl, yQ_rf h hs⟩⟩
  | succ k ih =>
    intro hk
    obtain ⟨C1, a1, a2⟩ := ih (by omega)
    obtain ⟨E01, -, a3⟩ := a2 E0 X g1 g2
    obtain ⟨C', E0', b1, b2, b3⟩ := y_one a3.1 a3.2.1 X X
    have w1 : cm_wr ((k : Int) + 1) = ((k + 1 : Nat) : Int) := by rw [cm_wr_id (by omega) (by omega)]; omega
    refine ⟨C', ?_, fun E Y h hs => ?_⟩
    · rw [a1, sg_X8_years_48, if_pos (by omega), b1, aft_n, sg_X8_years_58, w1]
    · obtain ⟨E1, c1, c2⟩ := a2 E Y h hs
      obtain ⟨C2, E', d1, d2, d3⟩ := y_one c2.1 c2.2.1 X Y
      have hq := hp_inn (b1.symm.trans d1)
      rw [← hq] at d3
      refine ⟨E', ?_, yQ_tr c2 d3⟩
      rw [c1, sg_X9_years_55, if_pos (by omega), d2, aft_n, sg_X9_years_65, w1]
/-- as it was, but for the disc above the head -/
theorem R_yr (hR : R D t) (hz : zOk E) (hrd : rDk (E 11) (E 12) (E 13) (E 619) (E 620) (D 15 9)) (eb : eqB (D 15 9) (D 619) (D 620) (E 619) (E 620)) (ha : agS (stt E 15) (stt D 15)) (h17 : ∀ j, 0 ≤ j → j < 246 → E 617 j = D 617 j) (hx : ∀ a : Nat, a ≤ 1 ∨ a = 10 ∨ a = 14 ∨ a = 26 ∨ (28 ≤ a ∧ a ≤ 603) ∨ (614 ≤ a ∧ a ≤ 616) ∨ a = 621 ∨ a = 626 ∨ (628 ≤ a ∧ a ≤ 632) → E a = D a) (h9 : ∀ j, j ≠ 4 → E 9 j = D 9 j) (h6 : E 613 9 = D 613 9 ∧ E 613 18 = D 613 18 ∧ E 613 21 = D 613 21 ∧ E 613 29 = D 613 29 ∧ E 613 33 = D 613 33 ∧ E 613 34 = D 613 34) : R E (t + 400) := by
  obtain ⟨⟨⟨d1, d2, d3, d4, d5⟩, r2, r3, r4, r5, r6⟩, ⟨a1, a2⟩, i1, t1, l1⟩ := hR
  have e159 : E 15 9 = D 15 9 := ha.2.2.2.2.2.2.1
  have hln := rDk_ln d2
  refine ⟨?_, ⟨?_, ?_⟩, ?_, ?_, ?_⟩
  · unfold Rc
    rw [e159, h9 1 (by omega), hx 10 (by omega), hx 614 (by omega), hx 615 (by omega), h6.2.2.1]
    refine ⟨⟨hz, hrd, by rw [h9 1 (by omega)]; exact vDk_eq eb hln d3, by rw [h9 0 (by omega)]; exact d4, d5⟩, fun j j0 j1 => by rw [h9 j (by omega)]; exact r2 j j0 j1, r3, r4, rS_cg h17 (nS_ag ha r6.1) (rS_ag ha r6.1 r5), wS_ag ha (wS_eq eb hln d3 (Int.le_refl _) r6)⟩
  · rw [e159, h9 1 (by omega), hx 26 (by omega), hx 626 (by omega)]
    exact aG_eq eb hln d3 (fun q q0 q1 => agS_of fun j hj => hx _ (by unfold adr; omega)) (fun _ _ _ => rfl) (Int.le_refl _) a1
  · rw [h6.2.2.2.1, hx 26 (by omega)]; exact a2
  · obtain ⟨q1, q2, q3⟩ := i1
    have ha' : agS (stt E 315) (stt D 315) := agS_of fun j hj => hx _ (by omega)
    unfold iR
    rw [hx 308 (by omega), hx 311 (by omega), hx 312 (by omega), hx 313 (by omega), hx 630 (by omega), hx 631 (by omega), hx 315 (by omega), hx 628 (by omega), hx 629 (by omega), hx 632 (by omega), hx 322 (by omega), h9 0 (by omega), h9 1 (by omega), h6.2.2.2.2.1, h6.2.2.2.2.2]
    refine ⟨q1, q2, fun hp => ?_⟩
    obtain ⟨p1, p2, p3, p4, p5, p6, p7⟩ := q3 hp
    exact ⟨p1, p2, p3, rS_ag ha' p5.1 p4, wS_ag ha' p5, aG_eq eqB_rf (rDk_ln p1) p2 (fun q q0 q1 => agS_of fun j hj => hx _ (by unfold bdr; omega)) (fun _ _ _ => rfl) (Int.le_refl _) p6, p7⟩
  · unfold tR
    rw [hx 0 (by omega), hx 1 (by omega), hx 621 (by omega), hx 616 (by omega), h6.1, h6.2.1]
    exact t1
  · unfold lkOk
    rw [h9 10 (by omega), hx 14 (by omega)]
    exact ⟨⟨l1.1.1, by have := l1.1.2; omega⟩, l1.2⟩
/-- a call that may throw in two ways -/
def QY (t : Int) (D : Nat → Int → Int) (X : cm_X) (cl md : cm_H → cm_R) : Prop := (∃ (v : Int) (D' : Nat → Int → Int), cl (cm_hp D X) = some (.inl (some (.inl v)), cm_hp D' X) ∧ ∀ Y, ∃ E : Nat → Int → Int, md (cm_hp D' Y) = some (.inl (some (.inl v)), cm_hp E Y) ∧ E 613 0 = 0 ∧ R E (t + 400) ∧ E 100000 = D 100000) ∨ ∃ e : Nat, (e = 0 ∨ e = 1) ∧ cl (cm_hp D X) = some (.inr e, cm_hp D (cm_xx X)) ∧ ∀ Y, ∃ E : Nat → Int → Int, md (cm_hp D Y) = some (.inl (some (.inl 0)), cm_hp E Y) ∧ E 613 0 = (e : Int) + 1 ∧ R E (t + 400) ∧ E 100000 = D 100000
theorem R_60 (hR : R D t) (v : Int) : R (cm_up D 613 0 v) (t + 400) := R_mono (R_eq (eqR_6 (i := 0) (v := v) (by omega)) hR.2.2.2.2 hR) (by omega)
theorem q_years (hR : R D t) (X : cm_X) (s n w : Int) : QY t D X (fun H => cm_x 155 0 [some (.inr (.inr 0)), some (.inl (s)), some (.inl (n)), some (.inl (w)), none, none, none] [] H) (fun H => cm_x 273 0 [some (.inr (.inr 613)), some (.inl (s)), some (.inl (n)), some (.inl (w)), none] [] H) := by
  by_cases hw : 0 ≤ w ∧ w ≤ 2
  case neg =>
    refine Or.inr ⟨0, Or.inl rfl, ?_, fun Y => ⟨cm_up (cm_up D 613 0 0) 613 0 1, ?_, rfl, ?_, rfl⟩⟩
    · show cm_x 155 0 [some (.inr (.inr 0)), some (.inl (s)), some (.inl (n)), some (.inl (w)), none, none, none] [] (cm_hp D X) = _
      rw [sg_X8_years_0, ev_cw, if_neg hw]
      exact aft_e _ _ _ _ rfl
    · show cm_x 273 0 [some (.inr (.inr 613)), some (.inl s), some (.inl n), some (.inl w), none] [] (cm_hp D Y) = _
      rw [sg_X9_years_0, ev_isIn, aft_v, if_neg hw, sg_X9_years_11, if_pos rfl, sg_X9_fail_0, aft_v, sg_X9_years_19]
    · rw [up_to_ua, up_same, u1_u1, up_to_ua, ua_ua, ← up_to_ua]
      exact R_60 hR 1
  by_cases hn : 0 ≤ n ∧ n ≤ 60
  case neg =>
    refine Or.inr ⟨1, Or.inr rfl, ?_, fun Y => ⟨cm_up (cm_up D 613 0 0) 613 0 2, ?_, rfl, ?_, rfl⟩⟩
    · show cm_x 155 0 [some (.inr (.inr 0)), some (.inl (s)), some (.inl (n)), some (.inl (w)), none, none, none] [] (cm_hp D X) = _
      rw [sg_X8_years_0, ev_cw, if_pos hw, aft_n, sg_X8_years_5]
      by_cases h0 : n < 0
      · rw [if_pos h0]
      · rw [if_neg h0, if_pos (by omega)]
    · show cm_x 273 0 [some (.inr (.inr 613)), some (.inl s), some (.inl n), some (.inl w), none] [] (cm_hp D Y) = _
      rw [sg_X9_years_0, ev_isIn, aft_v, if_pos hw, sg_X9_years_11, if_neg (by omega), ev_isIn, aft_v, if_neg hn, sg_X9_years_27, if_pos rfl, sg_X9_fail_0, aft_v, sg_X9_years_35]
    · rw [up_to_ua, up_same, u1_u1, up_to_ua, ua_ua, ← up_to_ua]
      exact R_60 hR 2
  have hc := hR.1
  have hr := hc.2.2.2.2.1
  have hwS := hc.2.2.2.2.2
  obtain ⟨D1, t1, t2, t3⟩ := ev_takeFrom (D := D) (X := X) (a := 604) (b := 15) isT_604 isT_15 (by omega) (bS_n hwS.1)
  have hC0 : ∀ E0, R2 D E0 → R2 (cm_up D1 611 0 s) E0 := fun E0 h0 => R2_c h0 (fun x hx => by rw [up_row (by omega), t3 x (by omega)]) (fun j _ => by rw [up_row (by omega), t3 9 (by omega)])
  -- the class, beside a shadow of the reference
  have hg : R2 (cm_up D1 611 0 s) (cm_up D 613 31 s) := hC0 _ (R2_m (Rc_R2 hc) rfl rfl rfl rfl rfl rfl)
  obtain ⟨C', g1, g2⟩ := y_all (s := s) (n := n) (w := w) hn.2 ⟨_, hg, rfl⟩ X n.toNat (by omega)
  obtain ⟨Eg, -, g3⟩ := g2 _ X hg rfl
  rw [show ((n.toNat : Nat) : Int) = n by omega] at g1 g2
  have hfC := g3.2.2.1
  have hC604 : ∀ x : Nat, 604 ≤ x → x < 611 → C' x = D1 x := fun x a b => by rw [hfC.1 x (by omega), up_row (by omega)]
  have ag604 : agS (stt C' 604) (stt D 15) := agS_tr (agS_of fun j hj => hC604 _ (by omega) (by omega)) t2
  have e604 := ag604.2.2.2.2.2.2
  have q9 : C' 604 9 = D 15 9 := e604.1
  have q10 : C' 604 10 = D 15 10 := e604.2
  obtain ⟨C2, u1, u2, u3⟩ := ev_takeFrom (D := C') (X := X) (a := 15) (b := 604) isT_15 isT_604 (by omega) (bS_ag ag604 (bS_n hwS.1))
  have hcls : cm_x 155 0 [some (.inr (.inr 0)), some (.inl (s)), some (.inl (n)), some (.inl (w)), none, none, none] [] (cm_hp D X) = some (.inl (some (.inl (if w = 0 then cm_wr (C' 15 9 - D 15 9) else if w = 1 then smw (cHas C') 12 else cm_wr (C' 15 10 - D 15 10)))), cm_hp C2 X) := by
    rw [sg_X8_years_0, ev_cw, if_pos hw, aft_n, sg_X8_years_5, if_neg (by omega), if_neg (by omega), t1, aft_n, sg_X8_years_37, g1, sg_X8_years_48, if_neg (by omega), ev_files, aft_v, sg_X8_years_88, u1, aft_n, sg_X8_years_118, q9, q10]
    by_cases w0 : w = 0
    · rw [if_pos w0, if_pos w0]
    · rw [if_neg w0, if_neg w0]
      by_cases w1 : w = 1
      · rw [if_pos w1, if_pos w1]
      · rw [if_neg w1, if_neg w1]
  refine Or.inl ⟨_, C2, hcls, fun Y => ?_⟩
  -- the reference
  have hfx : ∀ x : Nat, 26 ≤ x → x ≠ 611 → (x < 604 ∨ 611 ≤ x) → C2 x = D x := fun x a b c => by rw [u3 x (by omega), hfC.1 x (by omega), up_row b, t3 x (by omega)]
  obtain ⟨f, m1, m2⟩ := ev_ct_tn (D := cm_up C2 613 0 0) (X := Y)
  have x617 : (cm_up C2 613 0 0) 617 = D 617 := hfx 617 (by omega) (by omega) (by omega)
  rw [x617] at m2
  generalize hE0 : cm_up (cm_ua (cm_up C2 613 0 0) 627 f) 613 31 s = E0
  have y613 : ∀ j, j ≠ 0 → j ≠ 31 → E0 613 j = D 613 j := fun j a b => by
    rw [← hE0, up_same, u1_ne b, ua_row (by omega), up_same, u1_ne a, hfx 613 (by omega) (by omega) (by omega)]
  have y0 : E0 613 0 = 0 := by rw [← hE0]; rfl
  have y31 : E0 613 31 = s := by rw [← hE0]; rfl
  have yx : ∀ x : Nat, x ≠ 613 → x ≠ 627 → E0 x = C2 x := fun x a b => by rw [← hE0, up_row a, ua_row b, up_row a]
  have y627 : E0 627 = f := by rw [← hE0]; rfl
  have z : ∀ x : Nat, 614 ≤ x → x ≠ 627 → E0 x = D x := fun x a b => by rw [yx x (by omega) b, hfx x (by omega) (by omega) (by omega)]
  have hE : R2 (cm_up D1 611 0 s) E0 := hC0 _ (R2_m (Rc_R2 hc) (z _ (by omega) (by omega)) (z _ (by omega) (by omega)) (z _ (by omega) (by omega)) (z _ (by omega) (by omega)) (z _ (by omega) (by omega)) (y613 21 (by omega) (by omega)))
  obtain ⟨E', h2, h3⟩ := g2 E0 Y hE (by rw [y31]; rfl)
  obtain ⟨k1, k2, k3, k4, k5, k6⟩ := h3
  have x627 : E' 627 = f := by rw [k4.2 627 (by omega) (by omega) (by omega) (by omega) (by omega) (by omega) (by omega), y627]
  obtain ⟨f', n1, n2⟩ := ev_ct_nt (D := E') (X := Y)
  rw [x627] at n2
  have f17 : ∀ j, 0 ≤ j → j < 246 → f' j = D 617 j := fun j j0 j1 => by rw [n2 j j0 j1, m2 j j0 j1]
  have e244 : E' 617 244 = C' 15 9 := k1.2.2.2.2.1.2.2.2.2.2.2.1
  have e245 : E' 617 245 = C' 15 10 := k1.2.2.2.2.1.2.2.2.2.2.2.2
  have r244 : D 617 244 = D 15 9 := hr.2.2.2.2.2.2.1
  have r245 : D 617 245 = D 15 10 := hr.2.2.2.2.2.2.2
  have efl : smw (mHas (E' 617)) 12 = smw (cHas C') 12 := eq_files k1.2.2.2.2.1 k1.2.2.2.2.2.1
  have h15 : (cm_up D1 611 0 s) 15 9 = D 15 9 := by show D1 15 9 = _; rw [t3 15 (by omega)]
  rw [h15] at k5 k6
  rw [z 619 (by omega) (by omega), z 620 (by omega) (by omega)] at k6
  have c9 : ∀ j, j ≠ 4 → C2 9 j = D 9 j := fun j hj => by rw [u3 9 (by omega), hfC.2 j hj, up_row (by omega), t3 9 (by omega)]
  have ex : ∀ x : Nat, x < 613 → (cm_ua E' 617 f') x = C2 x := fun x hx => by
    rw [ua_row (by omega), k4.2 x (by omega) (by omega) (by omega) (by omega) (by omega) (by omega) (by omega), yx x (by omega) (by omega)]
  have hx2 : ∀ x : Nat, x < 9 ∨ x = 10 ∨ x = 14 → C2 x = D x := fun x hx => by rw [u3 x (by omega), hfC.1 x (by omega), up_row (by omega), t3 x (by omega)]
  have ex2 : ∀ x : Nat, 614 ≤ x → x ≠ 617 → x ≠ 619 → x ≠ 620 → x ≠ 622 → x ≠ 623 → x ≠ 624 → x ≠ 627 → (cm_ua E' 617 f') x = D x := fun x a b c d e g i j => by
    rw [ua_row b, k4.2 x (by omega) b c d e g i, z x a j]
  have h613 : ∀ j, j ≠ 0 → j ≠ 25 → j ≠ 26 → j ≠ 27 → j ≠ 31 → (cm_ua E' 617 f') 613 j = D 613 j := fun j a b c d e => by
    rw [ua_row (by omega), k4.1 j b c d e, y613 j a e]
  refine ⟨cm_ua E' 617 f', ?_, ?_, ?_, ex2 _ (by omega) (by omega) (by omega) (by omega) (by omega) (by omega) (by omega) (by omega)⟩
  · show cm_x 273 0 [some (.inr (.inr 613)), some (.inl s), some (.inl n), some (.inl w), none] [] (cm_hp C2 Y) = _
    rw [sg_X9_years_0, ev_isIn, aft_v, if_pos hw, sg_X9_years_11, if_neg (by omega), ev_isIn, aft_v, if_pos hn, sg_X9_years_27, if_neg (by omega), m1, aft_n, sg_X9_years_47, hE0, h2, sg_X9_years_55, if_neg (by omega), x627, m2 244 (by omega) (by omega), m2 245 (by omega) (by omega), e244, e245, r244, r245]
    by_cases w0 : w = 0
    · rw [if_pos w0, if_pos w0, n1, aft_n, sg_X9_years_137]
    · rw [if_neg w0, if_neg w0]
      by_cases w1 : w = 1
      · rw [if_pos w1, if_pos w1, ev_mFiles, aft_v, sg_X9_years_104, n1, aft_n, sg_X9_years_137, efl]
      · rw [if_neg w1, if_neg w1, n1, aft_n, sg_X9_years_137]
  · rw [ua_row (by omega), k4.1 0 (by omega) (by omega) (by omega) (by omega)]; exact y0
  · refine R_yr hR ?_ ?_ (by rw [ua_row (by omega), ua_row (by omega)]; exact k6) ?_ (fun j j0 j1 => by rw [ua_same]; exact f17 j j0 j1) (fun x hx => ?_) (fun j hj => by rw [ex 9 (by omega)]; exact c9 j hj) ⟨h613 9 (by omega) (by omega) (by omega) (by omega) (by omega), h613 18 (by omega) (by omega) (by omega) (by omega) (by omega), h613 21 (by omega) (by omega) (by omega) (by omega) (by omega), h613 29 (by omega) (by omega) (by omega) (by omega) (by omega), h613 33 (by omega) (by omega) (by omega) (by omega) (by omega), h613 34 (by omega) (by omega) (by omega) (by omega) (by omega)⟩
    · have hz := k1.1.1
      unfold zOk at *
      rw [ex 9 (by omega), ex 12 (by omega), u3 9 (by omega), u3 12 (by omega)]
      exact hz
    · have hd := k1.1.2.1
      rw [ex 11 (by omega), ex 12 (by omega), ex 13 (by omega), u3 11 (by omega), u3 12 (by omega), u3 13 (by omega), ua_row (by omega), ua_row (by omega)]
      exact fun b b0 b1 => hd b b0 (by omega)
    · exact agS_tr (agS_of fun j hj => ex _ (by omega)) (agS_tr u2 ag604)
    · by_cases h6 : x < 613
      · rw [ex x h6]
        by_cases h26 : x < 26
        · exact hx2 x (by omega)
        · exact hfx x (by omega) (by omega) (by omega)
      · exact ex2 x (by omega) (by omega) (by omega) (by omega) (by omega) (by omega) (by omega) (by omega)
