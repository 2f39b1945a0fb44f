/-! tear: the call -/
variable {C D D1 D2 D3 E F : Nat → Int → Int} {X Y : cm_X} {h pk t : Int}
theorem fw_bd {rm sp : Int → Prop} {cost P M : Int} (hc : 0 ≤ cost) (hm : ∀ e, rm e → e + cost ≤ M) : ∀ (k : Nat) (e d : Int), e ≤ M → e ≤ (fw rm sp cost P k e d).1 ∧ (fw rm sp cost P k e d).1 ≤ M := by
  intro k
  induction k with
  | zero => intro e d he; rw [fw]; exact ⟨Int.le_refl _, he⟩
  | succ k ih =>
    intro e d he
    by_cases h1 : d < P
    · by_cases h2 : rm e
      · have h4 := hm e h2
        by_cases h3 : sp e
        · rw [fw_s h1 h2 h3]
          have := ih (e + cost) d h4
          exact ⟨by omega, this.2⟩
        · rw [fw_g h1 h2 h3]
          have := ih (e + cost) (d + 1) h4
          exact ⟨by omega, this.2⟩
      · rw [fw_b h1 h2]; exact ⟨Int.le_refl _, he⟩
    · rw [fw_d h1]; exact ⟨Int.le_refl _, he⟩
theorem fwN_b (hz : zOk D) (hh : D 15 9 ≤ D 9 0) (x : Int) : D 15 9 ≤ (fwN D x).1 ∧ (fwN D x).1 ≤ D 9 0 := by
  obtain ⟨z1, z2, z3, z4, -⟩ := hz
  exact fw_bd (by omega) (fun e z => by unfold rm at z; omega) 400 _ _ hh
/-- the reference looks how many blocks it would write -/
theorem ev_mWould (hz : zOk D) (hf : fOk (D 10) (D 614 4) (D 615)) (hr : rS (stt D 15) (E 617)) (hn : nS (stt D 15)) (e9 : ∀ j, 0 ≤ j → j < 4 → E 614 j = D 9 j) (e4 : E 614 4 = D 614 4) (e15 : E 615 = D 615) (h0 : 0 ≤ D 15 9) (h1 : D 15 9 ≤ 400) (hm : mHol E (plC D)) (m26 : E 613 26 = pkB (D 9 1) (cCon D + 1)) : ∃ F, cm_x 212 0 [some (.inr (.inr 613)), none, none] [] (cm_hp E X) = some (.inl (some (.inl ((fwN D (E 613 21)).1 - D 15 9))), cm_hp F X) ∧ F 617 = E 617 ∧ (∀ j, j ≠ 27 → F 613 j = E 613 j) ∧ (∀ b, b < D 15 9 → F 619 b = E 619 b) ∧ (∀ y, y < 15 * D 15 9 → F 620 y = E 620 y) ∧ ∀ a : Nat, a ≠ 613 → a ≠ 619 → a ≠ 620 → a ≠ 624 → F a = E a := by
  have hN : ∀ v, cNm D v ≠ -1 → 0 ≤ cNm D v ∧ cNm D v < 12 := fun v hv => (nm_B hv).1
  have hl := plC_l (C := D) hn hz
  obtain ⟨z1, z2, z3, z4, z5⟩ := hz
  have x244 : E 617 244 = D 15 9 := hr.2.2.2.2.2.2.1
  have q0 := e9 0 (by omega) (by omega)
  have q1 := e9 1 (by omega) (by omega)
  have q2 := e9 2 (by omega) (by omega)
  have q3 := e9 3 (by omega) (by omega)
  have y14 : (cm_up E 613 27 0) 614 = E 614 := rfl
  have y17 : (cm_up E 613 27 0) 617 = E 617 := rfl
  have y27 : (cm_up E 613 27 0) 613 27 = 0 := rfl
  have y26 : (cm_up E 613 27 0) 613 26 = pkB (D 9 1) (cCon D + 1) := m26
  have y25 : (cm_up E 613 27 0) 613 25 = ((plC D).length : Int) := hm.1
  have hm2 : mHol (cm_up E 613 27 0) (plC D) := hm
  have hw : wOk (cm_up E 613 27 0) := by
    unfold wOk
    rw [y14, y25, y26, q0, q1, q2, q3, e4]
    refine ⟨z1, z2, z3, z4, ⟨hf.2.2.1, hf.2.2.2⟩, by omega, by omega, fun t t0 t1 => ?_⟩
    exact hol_ok (S := stt D 15) (N := cNm D) (pk := D 9 1) hn (by rw [y17]; exact hr) hN hl.2 hm2 t0 (by show t < ((plC D).length : Int); omega)
  obtain ⟨br, F, L, P, W⟩ := ev_wA (X := X) 400 (cm_up E 613 27 0) 0 hw (by omega) (by rw [y27]; omega) (by rw [y27, y17, x244]; exact h0) (by rw [y17, x244]; exact h1) (by rw [y14, y17, x244, q0]; omega)
  have eR : rmE (cm_up E 613 27 0) = rm D := by
    unfold rmE rm
    rw [y14, q0, q1, q2, q3]
  have eS : spE (cm_up E 613 27 0) = spX D (E 613 21) := spE_X (fun j a b => by rw [y14]; exact e9 j a b) (by rw [y14]; exact e4) e15 rfl
  rw [eR, eS, y14, y26, y17, x244, q1, q2] at P
  have P2 : fwN D (E 613 21) = (F 617 244, br) := by
    rw [← P]
    exact (fw_m2 (M := D 9 0) (by omega) (fun e z => by unfold rm at z; omega) 399 _ _ (by omega)).symm
  rw [y14, q1, q2] at L
  obtain ⟨w1, w2, w3, w4, w5, w6, w7⟩ := W
  rw [y17, x244] at w3 w4 w6
  rw [y27] at w6
  have hwr : cm_wr (E 614 2 + E 614 1) = D 9 2 + D 9 1 := by rw [q1, q2, cm_wr_id (by omega) (by omega)]
  have F17 : (cm_up (cm_up F 617 244 (E 617 244)) 617 245 (E 617 245)) 617 = E 617 := by
    rw [up_same, up_same]
    funext j
    by_cases h5 : j = 245
    · rw [h5, u1_eq]
    · rw [u1_ne h5]
      by_cases h4' : j = 244
      · rw [h4', u1_eq]
      · rw [u1_ne h4', w2 j h4' h5, y17]
  rw [P2]
  dsimp only
  refine ⟨cm_up (cm_up F 617 244 (E 617 244)) 617 245 (E 617 245), ?_, F17, fun j c => ?_, fun b hb2 => ?_, fun y hy => ?_, fun a a1 a2 a3 a6 => ?_⟩
  · rw [sg_X9_wouldWrite_0, sg_X9_writeAll_0, hwr, L, aft_v, sg_X9_wouldWrite_25, show F 613 27 = F 617 244 - D 15 9 by omega]
  · rw [up_row (by omega), up_row (by omega), w1 j c, up_same, u1_ne c]
  · rw [up_row (by omega), up_row (by omega), w3 b hb2]
    rfl
  · rw [up_row (by omega), up_row (by omega), w4 y hy]
    rfl
  · by_cases a7 : a = 617
    · rw [a7]; exact F17
    · rw [up_row a7, up_row a7, w7 a a1 a7 a2 a3 a6, up_row a1]
/-- the class looks whether it may be torn so -/
theorem ev_canTear (hz : zOk D) (hf : fOk (D 10) (D 614 4) (D 615)) (hn : nS (stt D 15)) (h0 : 0 ≤ D 15 9) (h1 : D 15 9 ≤ D 9 0) {x : Int} (x0 : 0 ≤ x) (hb : canB D) : cm_x 136 0 [some (.inr (.inr 0)), some (.inl (x))] [] (cm_hp D X) = some (.inl (some (.inl (tv (x < (fwN D (-1)).1 - D 15 9)))), cm_hp (cm_up D 9 4 (fwN D (-1)).2) X) := by
  have hb2 := fwN_b hz h1 (-1)
  have z1 := hz.1
  have hl : lOk D := fun n a b => (hn.2.1 n a b).2.1
  have pb := pkB_c hn hz
  have q15 : (cm_up D 9 4 (fwN D (-1)).2) 15 9 = D 15 9 := rfl
  have hfo : cm_x 30 0 [some (.inr (.inr 9)), some (.inl (D 15 9)), some (.inl (pkB (D 9 1) (cCon D + 1))), some (.inl (-1)), none, none, none, none, none] [] (cm_hp D X) = some (.inl (some (.inl ((fwN D (-1)).1))), cm_hp (cm_up D 9 4 (fwN D (-1)).2) X) := ev_foresee hz hf (by omega) h0 (by omega)
  rw [sg_X8_canTear_0, if_neg (by omega), ev_canBegin hz hn h0 (by omega), aft_v, sg_X8_canTear_8, tv_t hb, if_neg (by omega), ev_pkNow hz hl, aft_v, sg_X8_canTear_29, ((cCnt_0 hn).2 hb.1).1, hfo, aft_v, sg_X8_canTear_33, q15, cm_wr_id (x := (fwN D (-1)).1 - D 15 9) (by omega) (by omega)]
  by_cases hx : x < (fwN D (-1)).1 - D 15 9
  · rw [if_pos hx, tv_t hx]
  · rw [if_neg hx, tv_f hx]
/-- the flag of the class's look ahead is no matter -/
theorem R_94 (hR : R D t) (u : Int) : R (cm_up D 9 4 u) t := R_eq (eqR_9 (i := 4) (v := u) (by omega)) hR.2.2.2.2 hR
theorem canB_94 {u : Int} : canB (cm_up D 9 4 u) ↔ canB D := Iff.rfl
theorem q_tear (hR0 : R D t) (X : cm_X) {x : Int} : MM t D X (fun H => cm_x 135 0 [some (.inr (.inr 0)), some (.inl (x))] [] H) (fun H => cm_x 253 0 [some (.inr (.inr 613)), some (.inl (x))] [] H) := by
  have hc := hR0.1
  have hd := hc.1
  have hr := hc.2.2.2.2.1
  have hw := hc.2.2.2.2.2
  have hf := hc.2.2.1
  have gd := d_g hd
  have hh0 := gd.2.2.1
  have hh4 := gd.2.2.2
  by_cases hq : 0 ≤ x ∧ canB D
  · obtain ⟨x0, hq⟩ := hq
    have hR := R_94 hR0 (fwN D (-1)).2
    have fb := fwN_b hd.1 hd.2.2.2.1 (-1)
    have ct := ev_canTear (X := X) hd.1 hf hw.1 hh0 hd.2.2.2.1 x0 hq
    have z1 := hd.1.1
    have eN : ∀ u, (fwN (cm_up D 9 4 u) (-1)).1 = (fwN D (-1)).1 := fun u => rfl
    have eN := eN (fwN D (-1)).2
    have eH : (cm_up D 9 4 (fwN D (-1)).2) 15 9 = D 15 9 := rfl
    have eS : (cm_up D 9 4 (fwN D (-1)).2) 100000 = D 100000 := rfl
    have hqB : canB (cm_up D 9 4 (fwN D (-1)).2) := hq
    generalize cm_up D 9 4 (fwN D (-1)).2 = B at hR ct eN eH eS hqB
    have hcB := hR.1
    have gdB := d_g hcB.1
    by_cases hx : x < (fwN D (-1)).1 - D 15 9
    · obtain ⟨D1, k1, hk, hr1, hw1, hd1⟩ := kp_run hR X
      have hk2 := R2_k hR hk hr1 hw1 hd1
      have e15 := KP_o hR hk (x := 15) (by omega)
      obtain ⟨Eg, -, g1, g2, g3, -⟩ := mb2 hR hk hk2 (D2 := D1) (fun _ _ => rfl) X
      obtain ⟨D3, s1, s2, s3⟩ := tr_E ⟨Eg, g1, g2, g3⟩ x0 (by omega) X
      refine ⟨D3 15 9, D3, ?_, fun Y => ?_⟩
      · show cm_x 135 0 [some (.inr (.inr 0)), some (.inl (x))] [] (cm_hp D X) = _
        rw [sg_X8_tear_0, ct, aft_v, sg_X8_tear_5, tv_t hx, if_neg (by omega), k1, aft_n, sg_X8_tear_24, s1, aft_n, sg_X8_tear_29]
      · have hfr : ∀ x : Nat, 308 ≤ x → D3 x = D1 x := fun x hx => s2 x (by omega)
        have hfD : ∀ x : Nat, 308 ≤ x → D3 x = B x := fun x hx => by rw [hfr x hx, KP_o hR hk (by omega)]
        obtain ⟨E1, m1, m2, m3, m4, m5⟩ := mb2 hR hk hk2 hfr Y
        have e21 : E1 613 21 = -1 := m2.2.2.2.1.2.2
        -- it looks ahead
        have e1r : rS (stt D1 15) (E1 617) := m2.2.2.2.2.1
        obtain ⟨F, f1, f2, f3, f4, f5, f6⟩ := ev_mWould (D := D1) (X := Y) m2.1.1 m2.2.2.1 e1r m2.2.2.2.2.2.1 m2.2.1 m2.2.2.2.1.1 m2.2.2.2.1.2.1 (by rw [e15]; exact gdB.2.2.1) (by rw [e15]; exact gdB.2.2.2) m3 m4
        have hb1 : (fwN D1 (E1 613 21)).1 - D1 15 9 = (fwN D (-1)).1 - D 15 9 := by
          obtain ⟨Eb, b1, b2, b3, b4⟩ := ev_mCanBegin (D := B) (E := cm_up D3 613 0 0) (X := Y) hcB.1.1 (by show rS (stt B 15) (D3 617); rw [hfD 617 (by omega)]; exact hcB.2.2.2.2.1) hcB.2.2.2.2.2.1 (by show ∀ j, 0 ≤ j → j < 4 → D3 614 j = B 9 j; rw [hfD 614 (by omega)]; exact hcB.2.1) gdB.2.2.1 gdB.2.2.2
          have hEb : Eb = E1 := (hp_inj (b1.symm.trans m1)).2
          rw [hEb] at b2 b3 b4
          obtain ⟨F2, y1, -⟩ := ev_mWould (D := B) (E := E1) (X := Y) hcB.1.1 hcB.2.2.1 (by rw [b4.2 617 (by omega) (by omega) (by omega)]; show rS (stt B 15) (D3 617); rw [hfD 617 (by omega)]; exact hcB.2.2.2.2.1) hcB.2.2.2.2.2.1 (by rw [b4.2 614 (by omega) (by omega) (by omega)]; show ∀ j, 0 ≤ j → j < 4 → D3 614 j = B 9 j; rw [hfD 614 (by omega)]; exact hcB.2.1) (by rw [b4.2 614 (by omega) (by omega) (by omega)]; show D3 614 4 = _; rw [hfD 614 (by omega)]) (by rw [b4.2 615 (by omega) (by omega) (by omega)]; exact hfD 615 (by omega)) gdB.2.2.1 gdB.2.2.2 b2 b3
          have := (hp_inj (f1.symm.trans y1)).1
          rw [this, e21, eN, eH]
        rw [hb1] at f1
        have eqF : eqB (B 15 9) (E1 619) (E1 620) (F 619) (F 620) := fun y y0 y1 => ⟨f4 y (by rw [e15]; exact y1), fun i i0 i1 => f5 _ (by rw [e15]; omega)⟩
        have hF2 : R2 D1 F := by
          obtain ⟨u1, u2, u3, ⟨u4, u5, u6⟩, u7, u8⟩ := m2
          obtain ⟨v1, v2, v3, v4, v5⟩ := u1
          have eqF' : eqB (D1 15 9) (E1 619) (E1 620) (F 619) (F 620) := by rw [e15]; exact eqF
          have x614 := f6 614 (by omega) (by omega) (by omega) (by omega)
          have x615 := f6 615 (by omega) (by omega) (by omega) (by omega)
          unfold R2
          rw [x614, x615, f2, f3 21 (by omega)]
          exact ⟨⟨v1, rDk_eq eqF' (fun _ _ _ => ⟨rfl, rfl, fun _ _ _ => rfl⟩) v2, vDk_eq eqF' (rDk_ln v2) v3, v4, v5⟩, u2, u3, ⟨u4, u5, u6⟩, u7, wS_eq eqF' (rDk_ln v2) v3 (Int.le_refl _) u8⟩
        have e29 : F 613 29 = B 26 2 := by
          rw [f3 29 (by omega), m5.1 29 (by omega) (by omega)]
          show D3 613 29 = _
          rw [hfD 613 (by omega)]
          exact hR.2.1.2
        have hcn := hR.2.1.1.2.1
        obtain ⟨g, n1, n2⟩ := ev_mKeep (D := F) (X := Y) (by omega) (by omega)
        have x626 : F 626 = B 626 := by rw [f6 626 (by omega) (by omega) (by omega) (by omega), m5.2 626 (by omega) (by omega) (by omega)]; exact hfD 626 (by omega)
        have x617 : F 617 = B 617 := by rw [f2, m5.2 617 (by omega) (by omega) (by omega)]; exact hfD 617 (by omega)
        rw [e29] at n1 n2
        rw [x626, x617] at n2
        generalize hE2 : cm_up (u26 F g) 613 29 (if B 26 2 < 40 then B 26 2 + 1 else 40) = E2 at n1
        have y613 : E2 613 = cm_u1 (F 613) 29 (if B 26 2 < 40 then B 26 2 + 1 else 40) := by rw [← hE2, up_same]; rfl
        have y626 : E2 626 = g := by rw [← hE2]; rfl
        have yx : ∀ x : Nat, x ≠ 613 → x ≠ 626 → E2 x = F x := fun x h1 h3 => by rw [← hE2, up_row h1]; unfold u26; rw [ua_row h3]
        have z2 : R2 D1 E2 := R2_m hF2 (yx _ (by omega) (by omega)) (yx _ (by omega) (by omega)) (yx _ (by omega) (by omega)) (yx _ (by omega) (by omega)) (yx _ (by omega) (by omega)) (by rw [y613, u1_ne (by omega)])
        have z3 : mHol E2 (plC D1) := ⟨by rw [y613, u1_ne (by omega), f3 25 (by omega)]; exact m3.1, fun t x hx => by rw [yx 622 (by omega) (by omega), yx 623 (by omega) (by omega), f6 622 (by omega) (by omega) (by omega) (by omega), f6 623 (by omega) (by omega) (by omega) (by omega)]; exact m3.2 t x hx⟩
        obtain ⟨E', w1, w3, w4, w5, w6, w7⟩ := s3 E2 Y z2 z3 (by rw [y613, u1_ne (by omega), f3 26 (by omega)]; exact m4)
        have hcE : ∀ x : Nat, x < 613 → E' x = D3 x := fun x hx => by
          rw [w4.2 x (by omega) (by omega) (by omega) (by omega) (by omega), yx x (by omega) (by omega), f6 x (by omega) (by omega) (by omega) (by omega), m5.2 x (by omega) (by omega) (by omega), up_row (by omega)]
        have h13 : ∀ j, j ≠ 0 → j ≠ 25 → j ≠ 26 → j ≠ 27 → j ≠ 29 → E' 613 j = B 613 j := fun j a b c d e => by
          rw [w4.1 j d, y613, u1_ne e, f3 j d, m5.1 j b c, up_same, u1_ne a, hfD 613 (by omega)]
        have eqD : eqB (B 15 9) (B 619) (B 620) (E2 619) (E2 620) := by
          rw [yx 619 (by omega) (by omega), yx 620 (by omega) (by omega)]
          have := eqF
          rw [m5.2 619 (by omega) (by omega) (by omega), m5.2 620 (by omega) (by omega) (by omega), up_row (by omega), up_row (by omega), hfD 619 (by omega), hfD 620 (by omega)] at this
          exact this
        obtain ⟨u1, u2⟩ := act2 hR hk s2 w3 hcE (by rw [w4.1 29 (by omega), y613, u1_eq]) (fun j j0 j1 => by rw [w4.2 626 (by omega) (by omega) (by omega) (by omega) (by omega), y626]; exact n2 j j0 j1) h13 (fun x x1 x2 x3 x4 x5 x6 x7 x8 => by
          rw [w4.2 x (by omega) x2 x3 x4 x7, yx x (by omega) x8, f6 x (by omega) x3 x4 x7, m5.2 x (by omega) x5 x6, up_row (by omega), hfD x (by omega)]) (eqB_tr eqD (by rw [← e15]; exact w7)) (by rw [hcE 15 (by omega), ← e15]; exact w6)
        refine ⟨E', ?_, u1, u2.trans eS⟩
        show cm_x 253 0 [some (.inr (.inr 613)), some (.inl x)] [] (cm_hp D3 Y) = _
        have eh : E' 617 244 = D3 15 9 := w3.2.2.2.2.1.2.2.2.2.2.2.1
        rw [sg_X9_tear_0, m1, aft_v, sg_X9_tear_9, tv_t hqB, if_neg (by omega), if_neg (by omega), f1, aft_v, sg_X9_tear_21, if_pos hx, n1, aft_n, sg_X9_tear_33, w1, aft_n, sg_X9_tear_38, eh]
    · refine ⟨-1, cm_up B 0 9 (cm_wr (B 0 9 + 1)), ?_, (fun Y => ?_)⟩
      · show cm_x 135 0 [some (.inr (.inr 0)), some (.inl (x))] [] (cm_hp D X) = _
        rw [sg_X8_tear_0, ct, aft_v, sg_X8_tear_5, tv_f hx, if_pos rfl, sg_X8_refuse_0, aft_v, sg_X8_tear_12]
      · obtain ⟨E1, m1, m2, m3, m4⟩ := ev_mCanBegin (D := B) (E := cm_up (cm_up B 0 9 (cm_wr (B 0 9 + 1))) 613 0 0) (X := Y) hcB.1.1 hcB.2.2.2.2.1 hcB.2.2.2.2.2.1 hcB.2.1 gdB.2.2.1 gdB.2.2.2
        have e21 : E1 613 21 = -1 := by rw [m4.1 21 (by omega) (by omega)]; exact hcB.2.2.2.1
        obtain ⟨F, f1, f2, f3, f4, f5, f6⟩ := ev_mWould (D := B) (X := Y) hcB.1.1 hcB.2.2.1 (by rw [m4.2 617 (by omega) (by omega) (by omega)]; exact hcB.2.2.2.2.1) hcB.2.2.2.2.2.1 (by rw [m4.2 614 (by omega) (by omega) (by omega)]; exact hcB.2.1) (by rw [m4.2 614 (by omega) (by omega) (by omega)]; rfl) (by rw [m4.2 615 (by omega) (by omega) (by omega)]; rfl) gdB.2.2.1 gdB.2.2.2 m2 m3
        rw [e21, eN, eH] at f1
        rw [eH] at f4 f5
        obtain ⟨u1, u2⟩ := rf3 (E := F) hR (fun a a1 a2 a3 a4 a5 a6 => by rw [f6 a a1 a2 a3 a6, m4.2 a a1 a4 a5, up_row a1]) (fun j j0 j1 j2 j3 => by
          rw [f3 j j3, m4.1 j j1 j2, up_same, u1_ne j0]
          rfl) (fun y y0 y1 => by
            rw [eH] at y1
            refine ⟨?_, fun i i0 i1 => ?_⟩
            · rw [f4 y y1, m4.2 619 (by omega) (by omega) (by omega)]
              rfl
            · rw [f5 _ (by omega), m4.2 620 (by omega) (by omega) (by omega)]
              rfl)
        refine ⟨_, ?_, u1, u2.trans eS⟩
        show cm_x 253 0 [some (.inr (.inr 613)), some (.inl x)] [] (cm_hp (cm_up B 0 9 (cm_wr (B 0 9 + 1))) Y) = _
        rw [sg_X9_tear_0, m1, aft_v, sg_X9_tear_9, tv_t hqB, if_neg (by omega), if_neg (by omega), f1, aft_v, sg_X9_tear_21, if_neg hx, sg_X9_refuse_0, aft_v, sg_X9_tear_28]
  · refine ⟨-1, cm_up D 0 9 (cm_wr (D 0 9 + 1)), ?_, (fun Y => ?_)⟩
    · show cm_x 135 0 [some (.inr (.inr 0)), some (.inl (x))] [] (cm_hp D X) = _
      rw [sg_X8_tear_0, sg_X8_canTear_0]
      by_cases hx : x < 0
      · rw [if_pos hx, aft_v, sg_X8_tear_5, if_pos rfl, sg_X8_refuse_0, aft_v, sg_X8_tear_12]
      · rw [if_neg hx, ev_canBegin hd.1 hw.1 hh0 hh4, aft_v, sg_X8_canTear_8, tv_f (fun z => hq ⟨by omega, z⟩), if_pos rfl, aft_v, sg_X8_tear_5, if_pos rfl, sg_X8_refuse_0, aft_v, sg_X8_tear_12]
    · obtain ⟨E1, m1, m2, m3, m4⟩ := ev_mCanBegin (D := D) (E := cm_up (cm_up D 0 9 (cm_wr (D 0 9 + 1))) 613 0 0) (X := Y) hd.1 hr hw.1 hc.2.1 hh0 hh4
      obtain ⟨u1, u2⟩ := rf3 (E := E1) hR0 (fun a a1 a2 a3 a4 a5 a6 => by rw [m4.2 a a1 a4 a5, up_row a1]) (fun j j0 j1 j2 j3 => by
        rw [m4.1 j j1 j2, up_same, u1_ne j0]
        rfl) (by
        rw [m4.2 619 (by omega) (by omega) (by omega), m4.2 620 (by omega) (by omega) (by omega)]
        exact eqB_rf)
      refine ⟨_, ?_, u1, u2⟩
      show cm_x 253 0 [some (.inr (.inr 613)), some (.inl x)] [] (cm_hp (cm_up D 0 9 (cm_wr (D 0 9 + 1))) Y) = _
      rw [sg_X9_tear_0, m1, aft_v, sg_X9_tear_9]
      by_cases hb : canB D
      · rw [tv_t hb, if_neg (by omega), if_pos (by
          by_cases h : x < 0
          · exact h
          · exact absurd ⟨by omega, hb⟩ hq), sg_X9_refuse_0, aft_v, sg_X9_tear_28]
      · rw [tv_f hb, if_pos rfl, sg_X9_refuse_0, aft_v, sg_X9_tear_28]
