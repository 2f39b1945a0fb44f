/-! a year: both -/
variable {C C' C2 D E E' E2 F : Nat → Int → Int} {X Y : cm_X} {K B r : Int → Int} {h pk t : Int}
theorem bv_327 : ∀ i : Nat, i < 32 → 15 ≤ i → (32767#32).getLsbD i = false := by decide
theorem bv_dr (a : BitVec 32) : a.sshiftRight 16 &&& 32767#32 = (a >>> 16) &&& 32767#32 := by
  apply BitVec.eq_of_getLsbD_eq
  intro i hi
  rw [BitVec.getLsbD_and, BitVec.getLsbD_and, BitVec.getLsbD_sshiftRight, BitVec.getLsbD_ushiftRight]
  by_cases h8 : i < 15
  · rw [if_pos (by omega), decide_eq_false (by omega)]
    simp
  · rw [bv_327 i hi (by omega), Bool.and_false, Bool.and_false]
theorem dr_and (x : Int) : cm_and (cm_shr x 16) 32767 = cm_and (cm_ushr x 16) 32767 := by
  unfold cm_and cm_shr cm_ushr
  rw [Int32.ofInt_toInt, Int32.ofInt_toInt]
  congr 1
  apply Int32.toBitVec_inj.mp
  rw [Int32.toBitVec_and, Int32.toBitVec_and, Int32.toBitVec_shiftRight]
  exact bv_dr (Int32.ofInt x).toBitVec
theorem dr_b (y : Int) : 0 ≤ cm_and y 32767 ∧ cm_and y 32767 ≤ 32767 := by
  unfold cm_and
  have h1 : (Int32.ofInt y &&& Int32.ofInt 32767).toInt = ((Int32.ofInt y).toBitVec &&& 32767#32).toInt := rfl
  have h2 : ((Int32.ofInt y).toBitVec &&& 32767#32).toNat ≤ 32767 := by
    rw [BitVec.toNat_and]
    exact Nat.and_le_right
  rw [h1, BitVec.toInt_eq_toNat_of_lt (by omega)]
  omega
/-- the next seed, and what is drawn -/
def drS (s : Int) : Int := cm_wr (cm_wr (s * 1103515245) + 12345)
def drV (s n : Int) : Int := Int.tmod (cm_and (cm_ushr (drS s) 16) 32767) n
theorem drV_b {s n : Int} (hn : 0 < n) : 0 ≤ drV s n ∧ drV s n < n := by
  unfold drV
  have := dr_b (cm_ushr (drS s) 16)
  exact ⟨Int.tmod_nonneg _ this.1, Int.tmod_lt_of_pos _ hn⟩
theorem ev_draw {n : Int} (hn : 0 < n) : cm_x 45 0 [some (.inr (.inr 611)), some (.inl (n))] [] (cm_hp C X) = some (.inl (some (.inl (drV (C 611 0) n))), cm_hp (cm_up C 611 0 (drS (C 611 0))) X) := by
  rw [sg_X3_draw_0, if_neg (by omega), ck_t (by omega)]
  rfl
theorem ev_mDraw {n : Int} (hn : 0 < n) : cm_x 271 0 [some (.inr (.inr 613)), some (.inl (n))] [] (cm_hp E X) = some (.inl (some (.inl (drV (E 613 31) n))), cm_hp (cm_up E 613 31 (drS (E 613 31))) X) := by
  rw [sg_X9_draw_0, ck_t (by omega), dr_and]
  rfl
theorem R2_c (h : R2 C E) (hx : ∀ x : Nat, (10 ≤ x ∧ x ≤ 13) ∨ (15 ≤ x ∧ x ≤ 21) ∨ x = 614 ∨ x = 615 → C' x = C x) (h9 : ∀ j, j ≠ 4 → C' 9 j = C 9 j) : R2 C' E := by
  obtain ⟨h1, h2, h3, ⟨h4, h5, h6⟩, h7, h8⟩ := h
  have e15 := hx 15 (by omega)
  have ha : agS (stt C' 15) (stt C 15) := agS_of fun j hj => hx _ (by omega)
  unfold R2
  rw [e15, hx 10 (by omega), hx 614 (by omega), hx 615 (by omega), h9 1 (by omega)]
  refine ⟨dOk_of (h9 0 (by omega)) (h9 1 (by omega)) (h9 2 (by omega)) (h9 3 (by omega)) (hx 11 (by omega)) (hx 12 (by omega)) (hx 13 (by omega)) h1, fun j j0 j1 => by rw [h9 j (by omega)]; exact h2 j j0 j1, h3, ⟨h4, h5, h6⟩, rS_ag ha h8.1 h7, wS_ag ha h8⟩
/-- what years leave: the class, the reference -/
def frY (C C' : Nat → Int → Int) : Prop := (∀ a : Nat, (a < 9 ∨ a = 10 ∨ a = 14 ∨ (26 ≤ a ∧ a ≠ 611)) → C' a = C a) ∧ ∀ j, j ≠ 4 → C' 9 j = C 9 j
def frE (E E' : Nat → Int → Int) : Prop := (∀ j, j ≠ 25 → j ≠ 26 → j ≠ 27 → j ≠ 31 → E' 613 j = E 613 j) ∧ ∀ a : Nat, a ≠ 613 → a ≠ 617 → a ≠ 619 → a ≠ 620 → a ≠ 622 → a ≠ 623 → a ≠ 624 → E' a = E a
def yQ (C E C' E' : Nat → Int → Int) : Prop := R2 C' E' ∧ E' 613 31 = C' 611 0 ∧ frY C C' ∧ frE E E' ∧ C 15 9 ≤ C' 15 9 ∧ eqB (C 15 9) (E 619) (E 620) (E' 619) (E' 620)
theorem frY_tr (a : frY C C') (b : frY C' C2) : frY C C2 := ⟨fun x hx => (b.1 x hx).trans (a.1 x hx), fun j hj => (b.2 j hj).trans (a.2 j hj)⟩
theorem frE_tr (a : frE E E') (b : frE E' E2) : frE E E2 := ⟨fun j h1 h2 h3 h4 => (b.1 j h1 h2 h3 h4).trans (a.1 j h1 h2 h3 h4), fun x h1 h2 h3 h4 h5 h6 h7 => (b.2 x h1 h2 h3 h4 h5 h6 h7).trans (a.2 x h1 h2 h3 h4 h5 h6 h7)⟩
theorem yQ_rf (h : R2 C E) (hs : E 613 31 = C 611 0) : yQ C E C E := ⟨h, hs, ⟨fun _ _ => rfl, fun _ _ => rfl⟩, ⟨fun _ _ _ _ _ => rfl, fun _ _ _ _ _ _ _ _ => rfl⟩, Int.le_refl _, eqB_rf⟩
theorem yQ_tr (a : yQ C E C' E') (b : yQ C' E' C2 E2) : yQ C E C2 E2 := by
  obtain ⟨a1, a2, a3, a4, a5, a6⟩ := a
  obtain ⟨b1, b2, b3, b4, b5, b6⟩ := b
  exact ⟨b1, b2, frY_tr a3 b3, frE_tr a4 b4, by omega, eqB_tr a6 (eqB_le b6 a5)⟩
/-- a draw -/
theorem y_dr (h : R2 C E) (hs : E 613 31 = C 611 0) : yQ C E (cm_up C 611 0 (drS (C 611 0))) (cm_up E 613 31 (drS (C 611 0))) := by
  refine ⟨R2_m (R2_c h (fun x hx => up_row (by omega)) (fun j _ => rfl)) rfl rfl rfl rfl rfl rfl, rfl, ⟨fun a ha => up_row (by omega), fun _ _ => rfl⟩, ⟨fun j _ _ _ h31 => by rw [up_same, u1_ne h31], fun a h1 _ _ _ _ _ _ => up_row h1⟩, Int.le_refl _, eqB_rf⟩
/-- what is in mind alone changes -/
theorem y_st (h : R2 C E) (hs : E 613 31 = C 611 0) {g : Int → Int} (hc : ∀ x : Nat, x < 15 ∨ 22 ≤ x → C' x = C x) (h9 : C' 15 9 = C 15 9) (hr : rS (stt C' 15) g) (hw : wS (C 9 1) (E 619) (E 620) (stt C' 15)) : yQ C E C' (cm_ua E 617 g) := by
  obtain ⟨h1, h2, h3, ⟨h4, h5, h6⟩, h7, h8⟩ := h
  have e9 := hc 9 (by omega)
  refine ⟨⟨?_, ?_, ?_, ⟨?_, ?_, h6⟩, hr, ?_⟩, ?_, ⟨fun a ha => hc a (by omega), fun j _ => by rw [e9]⟩, ⟨fun _ _ _ _ _ => rfl, fun a _ h2 _ _ _ _ _ => ua_row h2⟩, by omega, eqB_rf⟩
  · show dOk C' (E 619) (E 620) (C' 15 9)
    rw [h9]
    exact dOk_of (by rw [e9]) (by rw [e9]) (by rw [e9]) (by rw [e9]) (hc 11 (by omega)) (hc 12 (by omega)) (hc 13 (by omega)) h1
  · rw [e9]; exact h2
  · rw [hc 10 (by omega), hc 614 (by omega), hc 615 (by omega)]; exact h3
  · rw [hc 614 (by omega)]; exact h4
  · rw [hc 615 (by omega)]; exact h5
  · rw [e9]; exact hw
  · rw [hc 611 (by omega)]; exact hs
theorem set_B2 (hr : rS (stt D 15) r) (hw : wS pk K B (stt D 15)) {n c : Int} (v : Int) (hc : canS D n c) : rS (stt (setD (begD D n) n c v) 15) (setM (begM r n (frV D)) n c v) ∧ wS pk K B (stt (setD (begD D n) n c v) 15) := by
  obtain ⟨⟨n0, n1⟩, c0, c2, c1⟩ := hc
  have r1 : r n = (if D 16 n = 0 then -1 else D 16 n) := (hr.1 n n0 n1).1
  have s1 : 0 ≤ D 16 n ∧ D 16 n ≤ 12 := (hw.1.2.1 n n0 n1).1
  unfold begD begM
  by_cases hz : D 16 n = 0
  · rw [if_pos hz] at r1
    rw [if_pos hz, if_pos r1]
    obtain ⟨b1, b2⟩ := bf_R hr hw n0 n1 hz
    have hf := (frV_f n0 n1 hz).1
    refine set_R b1 v b2 n0 n1 c0 c1 ?_ c2
    show cm_u1 (D 16) n (frV D) n ≠ 0
    rw [u1_eq]; omega
  · rw [if_neg hz] at r1
    rw [if_neg hz, if_neg (by omega)]
    exact set_R hr v (wS_x hw n) n0 n1 c0 c1 hz c2
/-- a cell is set -/
theorem y_set (h : R2 C E) (hs : E 613 31 = C 611 0) (a : Int) (X Y : cm_X) : ∃ C' E', cm_x 157 0 [some (.inr (.inr 0)), none, none, none] [] (cm_hp C X) = some (.inl none, cm_hp C' X) ∧ cm_aft 272 15 18 [some (.inr (.inr 613)), some (.inl (a)), none, none, none] [] (cm_x 271 0 [some (.inr (.inr 613)), some (.inl (12))] [] (cm_hp E Y)) = some (.inl none, cm_hp E' Y) ∧ yQ C E C' E' := by
  have y1 := y_dr h hs
  have n01 := drV_b (s := C 611 0) (n := 12) (by omega)
  have y2 := y_dr y1.1 y1.2.1
  have c01 := drV_b (s := drS (C 611 0)) (n := 8) (by omega)
  have y3 := y_dr y2.1 y2.2.1
  have v01 := drV_b (s := drS (drS (C 611 0))) (n := 1000) (by omega)
  have yy := yQ_tr (yQ_tr y1 y2) y3
  have sC1 : (cm_up C 611 0 (drS (C 611 0))) 611 0 = drS (C 611 0) := rfl
  rw [sC1] at y2 y3 yy
  have e1 : cm_x 45 0 [some (.inr (.inr 611)), some (.inl (12))] [] (cm_hp C X) = _ := ev_draw (by omega)
  have e2 : cm_x 45 0 [some (.inr (.inr 611)), some (.inl (8))] [] (cm_hp (cm_up C 611 0 (drS (C 611 0))) X) = _ := ev_draw (by omega)
  have f1 : cm_x 271 0 [some (.inr (.inr 613)), some (.inl (12))] [] (cm_hp E Y) = _ := ev_mDraw (by omega)
  have f2 : cm_x 271 0 [some (.inr (.inr 613)), some (.inl (8))] [] (cm_hp (cm_up E 613 31 (drS (C 611 0))) Y) = _ := ev_mDraw (by omega)
  rw [hs] at f1
  have sE1 : (cm_up E 613 31 (drS (C 611 0))) 613 31 = drS (C 611 0) := rfl
  rw [sC1] at e2
  rw [sE1] at f2
  have e3 : cm_x 45 0 [some (.inr (.inr 611)), some (.inl (1000))] [] (cm_hp (cm_up (cm_up C 611 0 (drS (C 611 0))) 611 0 (drS (drS (C 611 0)))) X) = _ := ev_draw (by omega)
  have f3 : cm_x 271 0 [some (.inr (.inr 613)), some (.inl (1000))] [] (cm_hp (cm_up (cm_up E 613 31 (drS (C 611 0))) 613 31 (drS (drS (C 611 0)))) Y) = _ := ev_mDraw (by omega)
  have sC2 : (cm_up (cm_up C 611 0 (drS (C 611 0))) 611 0 (drS (drS (C 611 0)))) 611 0 = drS (drS (C 611 0)) := rfl
  have sE2 : (cm_up (cm_up E 613 31 (drS (C 611 0))) 613 31 (drS (drS (C 611 0)))) 613 31 = drS (drS (C 611 0)) := rfl
  rw [sC2] at e3 yy
  rw [sE2] at f3
  generalize cm_up (cm_up (cm_up C 611 0 (drS (C 611 0))) 611 0 (drS (drS (C 611 0)))) 611 0 (drS (drS (drS (C 611 0)))) = C3 at e3 yy
  generalize cm_up (cm_up (cm_up E 613 31 (drS (C 611 0))) 613 31 (drS (drS (C 611 0)))) 613 31 (drS (drS (drS (C 611 0)))) = E3 at f3 yy
  generalize drV (C 611 0) 12 = n at n01 e1 f1
  generalize drV (drS (C 611 0)) 8 = c at c01 e2 f2
  generalize drV (drS (drS (C 611 0))) 1000 = v at v01 e3 f3
  have h3 := yy.1
  have hr3 := h3.2.2.2.2.1
  have hw3 := h3.2.2.2.2.2
  have hn3 := hw3.1
  have hC : cm_x 157 0 [some (.inr (.inr 0)), none, none, none] [] (cm_hp C X) = cm_x 157 40 [some (.inr (.inr 0)), some (.inl (n)), some (.inl (c)), some (.inl (v))] [.inl (tv (canS C3 n c))] (cm_hp C3 X) := by
    rw [sg_X8_setDrawn_0, e1, aft_v, sg_X8_setDrawn_9, e2, aft_v, sg_X8_setDrawn_19, e3, aft_v, sg_X8_setDrawn_30, ev_canSet, aft_v]
  have hE : cm_aft 272 15 18 [some (.inr (.inr 613)), some (.inl (a)), none, none, none] [] (cm_x 271 0 [some (.inr (.inr 613)), some (.inl (12))] [] (cm_hp E Y)) = cm_x 272 43 [some (.inr (.inr 613)), some (.inl (a)), some (.inl (n)), some (.inl (c)), some (.inl (v))] [.inl (tv (canS C3 n c))] (cm_hp E3 Y) := by
    rw [f1, aft_v, sg_X9_happen_18, f2, aft_v, sg_X9_happen_25, f3, aft_v, sg_X9_happen_33, ev_mCanSet hr3 hn3, aft_v, tv_c (show (canS C3 n c ∧ 0 ≤ v ∧ v ≤ 999) ↔ canS C3 n c from ⟨fun z => z.1, fun z => ⟨z, by omega, by omega⟩⟩)]
  rw [hC, hE]
  by_cases hc : canS C3 n c
  · obtain ⟨b1, b2⟩ := set_B2 hr3 hw3 v hc
    refine ⟨setD (begD C3 n) n c v, cm_ua E3 617 (setM (begM (E3 617) n (frV C3)) n c v), ?_, ?_, yQ_tr yy (y_st h3 yy.2.1 (fun x hx => setD_o hx) setD_h b1 b2)⟩
    · rw [sg_X8_setDrawn_40, tv_t hc, if_neg (by omega), ev_setCell hc.1.1 hc.1.2 hc.2.1 hc.2.2.2, aft_n, sg_X8_setDrawn_53]
    · rw [sg_X9_happen_43, tv_t hc, if_neg (by omega), ev_setNow (E := E3) (D := C3) (fun w hw => eq_nm hr3 hn3 hw) hc.1.1 hc.1.2 hc.2.1 hc.2.2.2 (fun z => by
        have r1 : E3 617 n = (if C3 16 n = 0 then -1 else C3 16 n) := (hr3.1 n hc.1.1 hc.1.2).1
        have s1 : 0 ≤ C3 16 n := (hn3.2.1 n hc.1.1 hc.1.2).1.1
        omega), aft_n, sg_X9_happen_54, sg_X9_happen_167_2]
  · refine ⟨C3, E3, ?_, ?_, yy⟩
    · rw [sg_X8_setDrawn_40, tv_f hc, if_pos rfl, sg_X8_setDrawn_53]
    · rw [sg_X9_happen_43, tv_f hc, if_pos rfl, sg_X9_happen_54, sg_X9_happen_167_2]
/-- a file is erased -/
theorem y_era (h : R2 C E) (hs : E 613 31 = C 611 0) (X Y : cm_X) : ∃ C' E', cm_aft 156 33 36 [some (.inr (.inr 0)), some (.inl (2)), none] [] (cm_x 45 0 [some (.inr (.inr 611)), some (.inl (12))] [] (cm_hp C X)) = some (.inl none, cm_hp C' X) ∧ cm_aft 272 65 68 [some (.inr (.inr 613)), some (.inl (2)), none, none, none] [] (cm_x 271 0 [some (.inr (.inr 613)), some (.inl (12))] [] (cm_hp E Y)) = some (.inl none, cm_hp E' Y) ∧ yQ C E C' E' := by
  have y1 := y_dr h hs
  have n01 := drV_b (s := C 611 0) (n := 12) (by omega)
  have e1 : cm_x 45 0 [some (.inr (.inr 611)), some (.inl (12))] [] (cm_hp C X) = _ := ev_draw (by omega)
  have f1 : cm_x 271 0 [some (.inr (.inr 613)), some (.inl (12))] [] (cm_hp E Y) = _ := ev_mDraw (by omega)
  rw [hs] at f1
  generalize cm_up C 611 0 (drS (C 611 0)) = C3 at e1 y1
  generalize cm_up E 613 31 (drS (C 611 0)) = E3 at f1 y1
  generalize drV (C 611 0) 12 = n at n01 e1 f1
  have h3 := y1.1
  have hr3 := h3.2.2.2.2.1
  have hw3 := h3.2.2.2.2.2
  have hn3 := hw3.1
  have hq := eq_has hr3 hn3 n
  have hb := (hn3.2.1 n n01.1 n01.2).1
  rw [e1, aft_v, f1, aft_v, sg_X8_liveYear_36, ev_has, aft_v, sg_X8_liveYear_45, sg_X9_happen_68, ev_mFile, aft_v, sg_X9_happen_74, hq]
  by_cases hz : cHas C3 n = 0
  · refine ⟨C3, E3, ?_, ?_, y1⟩
    · rw [if_pos hz, sg_X8_liveYear_56, sg_X8_liveYear_140_1]
    · rw [if_pos hz, sg_X9_happen_82, sg_X9_happen_167_1]
  · have h16 : C3 16 n ≠ 0 := fun z => hz (by unfold cHas; rw [if_neg (fun w => w.2.2 z)])
    obtain ⟨b1, b2⟩ := era_R hr3 hw3 n01.1 n01.2 h16
    have r1 : E3 617 n = (if C3 16 n = 0 then -1 else C3 16 n) := (hr3.1 n n01.1 n01.2).1
    rw [if_neg h16] at r1
    have hb' : 0 ≤ C3 16 n ∧ C3 16 n ≤ 12 := hb
    refine ⟨eraD C3 n, cm_ua E3 617 (eraM (E3 617) n), ?_, ?_, yQ_tr y1 (y_st h3 y1.2.1 (fun x hx => eraD_o hx) ?_ b1 b2)⟩
    · rw [if_neg hz, ev_erase n01.1 n01.2 hb', aft_n, sg_X8_liveYear_56, sg_X8_liveYear_140_1]
    · rw [if_neg hz, ev_mErase n01.1 n01.2 (by rw [r1]; exact hb'), aft_n, sg_X9_happen_82, sg_X9_happen_167_1]
    · unfold eraD
      rw [up_same, u1_ne (by omega)]
      rfl
/-- a sync -/
theorem y_syn (h : R2 C E) (hs : E 613 31 = C 611 0) (a : Int) (X Y : cm_X) : ∃ C' E', cm_aft 156 65 68 [some (.inr (.inr 0)), some (.inl (a)), none] [] (cm_x 132 0 [some (.inr (.inr 0)), none] [] (cm_hp C X)) = some (.inl none, cm_hp C' X) ∧ cm_aft 272 91 94 [some (.inr (.inr 613)), some (.inl (a)), none, none, none] [] (cm_x 205 0 [some (.inr (.inr 613))] [] (cm_hp E Y)) = some (.inl none, cm_hp E' Y) ∧ yQ C E C' E' := by
  have gd := d_g h.1
  obtain ⟨E1, m1, m2, m3, m4⟩ := ev_mCanBegin (D := C) (E := E) (X := Y) h.1.1 h.2.2.2.2.1 h.2.2.2.2.2.1 h.2.1 gd.2.2.1 gd.2.2.2
  have hm : ∀ x : Nat, x ≠ 613 → x ≠ 622 → x ≠ 623 → E1 x = E x := m4.2
  have h1 : R2 C E1 := R2_m h (hm _ (by omega) (by omega) (by omega)) (hm _ (by omega) (by omega) (by omega)) (hm _ (by omega) (by omega) (by omega)) (hm _ (by omega) (by omega) (by omega)) (hm _ (by omega) (by omega) (by omega)) (m4.1 21 (by omega) (by omega))
  have y1 : yQ C E C E1 := ⟨h1, by rw [m4.1 31 (by omega) (by omega)]; exact hs, ⟨fun _ _ => rfl, fun _ _ => rfl⟩, ⟨fun j a b _ _ => m4.1 j a b, fun x a _ _ _ b c _ => hm x a b c⟩, Int.le_refl _, by rw [hm 619 (by omega) (by omega) (by omega), hm 620 (by omega) (by omega) (by omega)]; exact eqB_rf⟩
  rw [ev_canBegin h.1.1 h.2.2.2.2.2.1 gd.2.2.1 gd.2.2.2, m1, aft_v, aft_v, sg_X8_liveYear_68, sg_X9_happen_94]
  by_cases hb : canB C
  · obtain ⟨v, C', w, E', a1, a2, a3, a4, a5, a6, a7, a8, a9⟩ := sy_W h1 m2 m3 X Y
    refine ⟨C', E', ?_, ?_, yQ_tr y1 ⟨a4, ?_, ⟨fun x hx => a5 x (by omega), fun j _ => by rw [a5 9 (by omega)]⟩, ⟨fun j _ _ c _ => a6.1 j c, fun x b1 b2 b3 b4 _ _ b7 => a6.2 x b1 b2 b3 b4 b7⟩, a8, a9⟩⟩
    · rw [tv_t hb, if_neg (by omega), a1, aft_v, sg_X8_liveYear_75, sg_X8_liveYear_140]
    · rw [tv_t hb, if_neg (by omega), a2, aft_v, sg_X9_happen_101, sg_X9_happen_167]
    · rw [a6.1 31 (by omega), a5 611 (by omega)]; exact y1.2.1
  · refine ⟨C, E1, ?_, ?_, y1⟩
    · rw [tv_f hb, if_pos rfl, sg_X8_liveYear_140]
    · rw [tv_f hb, if_pos rfl, sg_X9_happen_167]
