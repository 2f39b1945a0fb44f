/-! queries of blocks and files -/
variable {D E : Nat → Int → Int} {t h : Int}
theorem ev_mBlk {X : cm_X} (hz : 40 ≤ D 614 0 ∧ D 614 0 ≤ 400) (b : Int) : cm_x 220 0 [some (.inr (.inr 613)), some (.inl (b))] [] (cm_hp D X) = some (.inl (some (.inl (if 0 ≤ b ∧ b < D 614 0 then 1 else 0))), cm_hp D X) := by
  have e : cm_wr (D 614 0 - 1) = D 614 0 - 1 := cm_wr_id (by omega) (by omega)
  rw [sg_X9_isBlock_0, e, ev_isIn, aft_v, sg_X9_isBlock_13]
  by_cases h : 0 ≤ b ∧ b < D 614 0
  · rw [if_pos (by omega : 0 ≤ b ∧ b ≤ D 614 0 - 1), if_pos h, ck_t (Or.inr rfl)]
  · rw [if_neg (by omega : ¬ (0 ≤ b ∧ b ≤ D 614 0 - 1)), if_neg h, ck_t (Or.inl rfl)]
theorem ev_mBlock1 {X : cm_X} (hd : mdOk D h) {b w : Int} (b0 : 0 ≤ b) (b1 : b < 400) : ∃ g, cm_x 221 43 [some (.inr (.inr 613)), some (.inl (b)), some (.inl (w)), some (.inl (0)), some (.inl (0))] [] (cm_hp D X) = some (.inl (some (.inl (smw (fun m => tv (goodM (D 619) (D 614 1) m ∧ rch (D 620) m b)) h.toNat))), cm_hp (ua25 D g) X) := by
  have hh := hd.1.2.2.2
  have hh0 := hd.1.2.2.1
  obtain ⟨g, L, -⟩ := lp_inv (X := fun j g => cm_x 221 43 [some (.inr (.inr 613)), some (.inl (b)), some (.inl (w)), some (.inl (smw (fun m => tv (goodM (D 619) (D 614 1) m ∧ rch (D 620) m b)) j.toNat)), some (.inl (j))] [] (cm_hp (ua25 D g) X)) (P := fun _ _ => True) (lo := 0) (hi := h) (fun j g j0 j1 _ => by
    have e : cm_wr (j + 1) = j + 1 := cm_wr_id (by omega) (by omega)
    have e8 : ∀ g', ua25 D g' 617 244 = h := fun _ => hd.2.1
    have hsm := smw_le (m := 1) (by omega) (f := fun m => tv (goodM (D 619) (D 614 1) m ∧ rch (D 620) m b)) (n := j.toNat) (fun i _ _ => tv_bb _) (by omega)
    have ez : smw (fun m => tv (goodM (D 619) (D 614 1) m ∧ rch (D 620) m b)) (j + 1).toNat = smw (fun m => tv (goodM (D 619) (D 614 1) m ∧ rch (D 620) m b)) j.toNat + tv (goodM (D 619) (D 614 1) j ∧ rch (D 620) j b) := by
      rw [show (j + 1).toNat = j.toNat + 1 by omega]
      show cm_wr (smw _ j.toNat + tv (goodM (D 619) (D 614 1) ((j.toNat : Nat) : Int) ∧ rch (D 620) ((j.toNat : Nat) : Int) b)) = _
      rw [show ((j.toNat : Nat) : Int) = j by omega]
      have := tv_bb (goodM (D 619) (D 614 1) j ∧ rch (D 620) j b)
      exact cm_wr_id (by omega) (by omega)
    by_cases hg : goodM (D 619) (D 614 1) j
    · obtain ⟨g2, r1, r2⟩ := ev_meet (X := X) (md_ua (g := g) hd) (m := j) (Or.inr ⟨⟨by omega, by omega⟩, hg⟩)
      have eu : ua25 (ua25 D g) g2 = ua25 D g2 := by
        funext a i
        unfold ua25
        simp only [ua_at]
        by_cases ha : a = 625
        · rw [if_pos ha, if_pos ha]
        · rw [if_neg ha, if_neg ha, if_neg ha]
      rw [eu] at r1
      refine ⟨g2, ?_, trivial⟩
      show cm_x 221 43 [some (.inr (.inr 613)), some (.inl (b)), some (.inl (w)), some (.inl (smw (fun m => tv (goodM (D 619) (D 614 1) m ∧ rch (D 620) m b)) j.toNat)), some (.inl (j))] [] (cm_hp (ua25 D g) X) = cm_x 221 43 [some (.inr (.inr 613)), some (.inl (b)), some (.inl (w)), some (.inl (smw (fun m => tv (goodM (D 619) (D 614 1) m ∧ rch (D 620) m b)) (j + 1).toNat)), some (.inl (j + 1))] [] (cm_hp (ua25 D g2) X)
      rw [sg_X9_block_43, e8, if_pos (by omega), ev_mGood (md_ua (g := g) hd) (by omega) (by omega), aft_v, sg_X9_block_62]
      have eg : tv (goodM (ua25 D g 619) (ua25 D g 614 1) j) = 1 := tv_t hg
      rw [eg, if_neg (by omega), r1, aft_n, sg_X9_block_74, ck_t (by omega), e, ez]
      have e25 : ua25 D g2 625 = g2 := ua_same
      have r2 := r2 b b0 b1
      rw [e25]
      by_cases hr : rch (D 620) j b
      · rw [if_neg (r2.mpr hr), tv_t ⟨hg, hr⟩, cm_wr_id (by omega) (by omega)]
      · rw [if_pos (Classical.not_not.mp fun z => hr (r2.mp z)), tv_f (fun z => hr z.2), cm_wr_id (by omega) (by omega)]
    · refine ⟨g, ?_, trivial⟩
      show cm_x 221 43 [some (.inr (.inr 613)), some (.inl (b)), some (.inl (w)), some (.inl (smw (fun m => tv (goodM (D 619) (D 614 1) m ∧ rch (D 620) m b)) j.toNat)), some (.inl (j))] [] (cm_hp (ua25 D g) X) = cm_x 221 43 [some (.inr (.inr 613)), some (.inl (b)), some (.inl (w)), some (.inl (smw (fun m => tv (goodM (D 619) (D 614 1) m ∧ rch (D 620) m b)) (j + 1).toNat)), some (.inl (j + 1))] [] (cm_hp (ua25 D g) X)
      rw [sg_X9_block_43, e8, if_pos (by omega), ev_mGood (md_ua (g := g) hd) (by omega) (by omega), aft_v, sg_X9_block_62]
      have eg : tv (goodM (ua25 D g 619) (ua25 D g 614 1) j) = 0 := tv_f hg
      rw [eg, if_pos rfl, e, ez, tv_f (fun z => hg z.1), Int.add_zero]) (D 625) hh0 trivial
  refine ⟨g, ?_⟩
  have L : cm_x 221 43 [some (.inr (.inr 613)), some (.inl (b)), some (.inl (w)), some (.inl (0)), some (.inl (0))] [] (cm_hp D X) = cm_x 221 43 [some (.inr (.inr 613)), some (.inl (b)), some (.inl (w)), some (.inl (smw (fun m => tv (goodM (D 619) (D 614 1) m ∧ rch (D 620) m b)) h.toNat)), some (.inl (h))] [] (cm_hp (ua25 D g) X) := by
    have := L
    rw [ua_self] at this
    exact this
  have e8 : ua25 D g 617 244 = h := hd.2.1
  rw [L, sg_X9_block_43, e8, if_neg (by omega)]
theorem q_block (hR : R D t) (ht : 0 ≤ t ∧ t < 1000000) (X : cm_X) (b w : Int) : QQ t D X (fun H => cm_x 107 0 [some (.inr (.inr 0)), some (.inl (b)), some (.inl (w))] [] H) (fun H => cm_x 221 0 [some (.inr (.inr 613)), some (.inl (b)), some (.inl (w)), none, none] [] H) 0 := by
  have hc := hR.1
  have hd := hc.1
  have hz := hd.1.1
  have e0 : D 614 0 = D 9 0 := hc.2.1 0 (by omega) (by omega)
  have epk : D 614 1 = D 9 1 := hc.2.1 1 (by omega) (by omega)
  have hz6 : 40 ≤ (cm_up D 613 0 0) 614 0 ∧ (cm_up D 613 0 0) 614 0 ≤ 400 := by
    show 40 ≤ D 614 0 ∧ D 614 0 ≤ 400
    omega
  have e0' : (cm_up D 613 0 0) 614 0 = D 9 0 := e0
  have hmd : mdOk (cm_up D 613 0 0) (D 15 9) := Rc_md hc
  by_cases hb : 0 ≤ b ∧ b < D 9 0
  · by_cases hw : 0 ≤ w ∧ w ≤ 1
    · by_cases h0 : w = 0
      · subst h0
        refine QQ_s (v := if b < D 15 9 then D 619 b else 0) hR (fun X => ?_) (fun X => ?_)
        · show cm_x 107 0 [some (.inr (.inr 0)), some (.inl (b)), some (.inl (0))] [] (cm_hp D X) = _
          rw [sg_X8_block_0, ev_cb, if_pos hb, aft_n, sg_X8_block_5, ev_cw, if_pos hw, aft_n, sg_X8_block_10, if_pos rfl, sg_X2_kindOf_0, ev_isBlock, aft_v, if_pos hb, sg_X2_kindOf_5, if_neg (by omega)]
          by_cases hh : b < D 15 9
          · rw [if_pos hh, ck_t (by omega), aft_v, sg_X8_block_29, if_pos hh, (hd.2.1 b hb.1 hh).1]
          · rw [if_neg hh, aft_v, sg_X8_block_29, if_neg hh]
        · show cm_x 221 0 [some (.inr (.inr 613)), some (.inl (b)), some (.inl (0)), none, none] [] (cm_hp D X) = _
          rw [sg_X9_block_0, ev_mBlk hz6, e0', if_pos hb, aft_v, sg_X9_block_10, if_neg (by omega), ev_isIn, if_pos (by omega), aft_v, sg_X9_block_19, if_neg (by omega), if_pos rfl, ev_mKind hmd hb.1, aft_v, sg_X9_block_37]
          rfl
      · have h1 : w = 1 := by omega
        subst h1
        obtain ⟨D', c1, ⟨q, g, rfl⟩, l2⟩ := ev_mapsReaching (X := X) hd hb.1 hb.2 hR.2.2.2.2 (by omega)
        have hR' : R (mk14 D q g) (t + 400) := R_eq eqR_14 l2 hR
        refine ⟨some (smw (fun m => tv (goodM (D 619) (D 9 1) m ∧ rch (D 620) m b)) (D 15 9).toNat), mk14 D q g, ?_, fun Y => ?_⟩
        · show cm_x 107 0 [some (.inr (.inr 0)), some (.inl (b)), some (.inl (1))] [] (cm_hp D X) = _
          rw [sg_X8_block_0, ev_cb, if_pos hb, aft_n, sg_X8_block_5, ev_cw, if_pos hw, aft_n, sg_X8_block_10, if_neg (by omega), c1, aft_v, sg_X8_block_45]
          rfl
        · have hmd' : mdOk (cm_up (mk14 D q g) 613 0 0) (D 15 9) := hmd
          obtain ⟨g2, m1⟩ := ev_mBlock1 (X := Y) (w := 1) hmd' hb.1 (by omega)
          refine ⟨ua25 (cm_up (mk14 D q g) 613 0 0) g2, ?_, rfl, R_eq (E := ua25 (cm_up (mk14 D q g) 613 0 0) g2) (eqR_tr (eqR_6 (by omega)) (eqR_ua (by unfold cRow; omega) (by omega) (by omega))) (lk_mono hR'.2.2.2.2 (by omega)) hR', rfl⟩
          show cm_x 221 0 [some (.inr (.inr 613)), some (.inl b), some (.inl 1), none, none] [] (cm_hp (mk14 D q g) Y) = _
          have e0'' : (cm_up (mk14 D q g) 613 0 0) 614 0 = D 9 0 := e0
          rw [sg_X9_block_0, ev_mBlk (D := cm_up (mk14 D q g) 613 0 0) hz6, e0'', if_pos hb, aft_v, sg_X9_block_10, if_neg (by omega), ev_isIn, if_pos (by omega), aft_v, sg_X9_block_19, if_neg (by omega), if_neg (by omega), m1]
          show (some (.inl (some (.inl (smw (fun m => tv (goodM (D 619) (D 614 1) m ∧ rch (D 620) m b)) (D 15 9).toNat))), _) : cm_R) = _
          rw [epk]
          rfl
    · refine QQ_n hR (fun X => ?_) (fun X => ?_)
      · show cm_x 107 0 [some (.inr (.inr 0)), some (.inl (b)), some (.inl (w))] [] (cm_hp D X) = _
        rw [sg_X8_block_0, ev_cb, if_pos hb, aft_n, sg_X8_block_5, ev_cw, if_neg hw, aft_e (y := 107) (p0 := 7) (e := 0) _ _ _ _ rfl]
      · show cm_x 221 0 [some (.inr (.inr 613)), some (.inl (b)), some (.inl (w)), none, none] [] (cm_hp D X) = _
        rw [sg_X9_block_0, ev_mBlk hz6, e0', if_pos hb, aft_v, sg_X9_block_10, if_neg (by omega), ev_isIn, if_neg hw, aft_v, sg_X9_block_19, if_pos rfl, sg_X9_fail_0, aft_v, sg_X9_block_27]
  · refine QQ_n hR (fun X => ?_) (fun X => ?_)
    · show cm_x 107 0 [some (.inr (.inr 0)), some (.inl (b)), some (.inl (w))] [] (cm_hp D X) = _
      rw [sg_X8_block_0, ev_cb, if_neg hb, aft_e (y := 107) (p0 := 2) (e := 0) _ _ _ _ rfl]
    · show cm_x 221 0 [some (.inr (.inr 613)), some (.inl (b)), some (.inl (w)), none, none] [] (cm_hp D X) = _
      rw [sg_X9_block_0, ev_mBlk hz6, e0', if_neg hb, aft_v, sg_X9_block_10, if_pos rfl, sg_X9_fail_0, aft_v, sg_X9_block_27]
/-- how much a block tells, as the model asks -/
theorem ev_mTls {X : cm_X} (hd : mdOk D h) {b i : Int} (b0 : 0 ≤ b) (b1 : b < h) : cm_x 222 24 [some (.inr (.inr 613)), some (.inl (b)), some (.inl (i)), none, none] [(.inl (D 619 b))] (cm_hp D X) = if 0 ≤ i ∧ i < mLen (D 619 b) (D 620 (15 * b + 8)) then some (.inl (some (.inl (D 620 (15 * b + i)))), cm_hp D X) else some (.inl (some (.inl (0))), cm_hp (cm_up D 613 0 1) X) := by
  have hh := hd.1.2.2.2
  have h4 := (hd.1.1 b b0 b1).2
  rw [sg_X9_tells_24]
  by_cases k3 : D 619 b = 3
  · have em : mLen (D 619 b) (D 620 (15 * b + 8)) = 1 := by unfold mLen; rw [if_pos k3]
    rw [em, if_pos k3, ev_isIn, aft_v, sg_X9_tells_80]
    by_cases hi : 0 ≤ i ∧ i < 1
    · rw [if_pos (by omega : 0 ≤ i ∧ i ≤ 0), if_neg (by omega), ev_mTells b0 (by omega) (by omega) (by omega), aft_v, sg_X9_tells_89, sg_X9_tells_97, if_pos hi]
    · rw [if_neg (by omega : ¬ (0 ≤ i ∧ i ≤ 0)), if_pos rfl, sg_X9_fail_0, aft_v, sg_X9_tells_97, if_neg hi]
  · rw [if_neg k3]
    by_cases k4 : D 619 b = 4
    · have h4 := h4 k4
      have em : mLen (D 619 b) (D 620 (15 * b + 8)) = D 620 (15 * b + 8) := by unfold mLen; rw [if_neg k3, if_pos k4]
      have ew : cm_wr (D 620 (15 * b + 8) - 1) = D 620 (15 * b + 8) - 1 := cm_wr_id (by omega) (by omega)
      rw [em, if_pos k4, ev_mMany b0 (by omega), aft_v, sg_X9_tells_44, ew, ev_isIn, aft_v, sg_X9_tells_80]
      by_cases hi : 0 ≤ i ∧ i < D 620 (15 * b + 8)
      · rw [if_pos (by omega : 0 ≤ i ∧ i ≤ D 620 (15 * b + 8) - 1), if_neg (by omega), ev_mTells b0 (by omega) (by omega) (by omega), aft_v, sg_X9_tells_89, sg_X9_tells_97, if_pos hi]
      · rw [if_neg (by omega : ¬ (0 ≤ i ∧ i ≤ D 620 (15 * b + 8) - 1)), if_pos rfl, sg_X9_fail_0, aft_v, sg_X9_tells_97, if_neg hi]
    · rw [if_neg k4]
      by_cases k5 : D 619 b = 5
      · have em : mLen (D 619 b) (D 620 (15 * b + 8)) = 12 := by unfold mLen; rw [if_neg k3, if_neg k4, if_pos k5]
        rw [em, if_pos k5, ev_isIn, aft_v, sg_X9_tells_80]
        by_cases hi : 0 ≤ i ∧ i < 12
        · rw [if_pos (by omega : 0 ≤ i ∧ i ≤ 11), if_neg (by omega), ev_mTells b0 (by omega) (by omega) (by omega), aft_v, sg_X9_tells_89, sg_X9_tells_97, if_pos hi]
        · rw [if_neg (by omega : ¬ (0 ≤ i ∧ i ≤ 11)), if_pos rfl, sg_X9_fail_0, aft_v, sg_X9_tells_97, if_neg hi]
      · rw [if_neg k5]
        by_cases k6 : D 619 b = 6
        · have em : mLen (D 619 b) (D 620 (15 * b + 8)) = 15 := by unfold mLen; rw [if_neg k3, if_neg k4, if_neg k5, if_pos k6]
          rw [em, if_pos k6, ev_isIn, aft_v, sg_X9_tells_80]
          by_cases hi : 0 ≤ i ∧ i < 15
          · rw [if_pos (by omega : 0 ≤ i ∧ i ≤ 14), if_neg (by omega), ev_mTells b0 (by omega) (by omega) (by omega), aft_v, sg_X9_tells_89, sg_X9_tells_97, if_pos hi]
          · rw [if_neg (by omega : ¬ (0 ≤ i ∧ i ≤ 14)), if_pos rfl, sg_X9_fail_0, aft_v, sg_X9_tells_97, if_neg hi]
        · have em : mLen (D 619 b) (D 620 (15 * b + 8)) = 0 := by unfold mLen; rw [if_neg k3, if_neg k4, if_neg k5, if_neg k6]
          rw [em, if_neg k6, ev_isIn, aft_v, sg_X9_tells_80, if_neg (by omega : ¬ (0 ≤ i ∧ i ≤ (-1))), if_pos rfl, sg_X9_fail_0, aft_v, sg_X9_tells_97, if_neg (by omega)]
theorem q_tells (hR : R D t) (X : cm_X) (b i : Int) : QQ t D X (fun H => cm_x 108 0 [some (.inr (.inr 0)), some (.inl (b)), some (.inl (i))] [] H) (fun H => cm_x 222 0 [some (.inr (.inr 613)), some (.inl (b)), some (.inl (i)), none, none] [] H) 0 := by
  have hc := hR.1
  have hd := hc.1
  have hz := hd.1.1
  have e0 : D 614 0 = D 9 0 := hc.2.1 0 (by omega) (by omega)
  have hz6 : 40 ≤ (cm_up D 613 0 0) 614 0 ∧ (cm_up D 613 0 0) 614 0 ≤ 400 := by
    show 40 ≤ D 614 0 ∧ D 614 0 ≤ 400
    omega
  have e0' : (cm_up D 613 0 0) 614 0 = D 9 0 := e0
  have hmd : mdOk (cm_up D 613 0 0) (D 15 9) := Rc_md hc
  by_cases hb : 0 ≤ b ∧ b < D 9 0
  · by_cases hh : b < D 15 9
    · obtain ⟨a1, a2, a3, a4, a5⟩ := hd.2.1 b hb.1 hh
      have el : lo D b = mLen (D 619 b) (D 620 (15 * b + 8)) := by unfold lo; rw [if_pos hb, a4]
      have em := fun Y => ev_mTls (X := Y) (i := i) hmd hb.1 hh
      by_cases hi : 0 ≤ i ∧ i < mLen (D 619 b) (D 620 (15 * b + 8))
      · refine QQ_s (v := D 620 (15 * b + i)) hR (fun X => ?_) (fun X => ?_)
        · show cm_x 108 0 [some (.inr (.inr 0)), some (.inl (b)), some (.inl (i))] [] (cm_hp D X) = _
          rw [sg_X8_tells_0, ev_cb, if_pos hb, aft_n, sg_X8_tells_5, if_pos hh, if_neg (by omega), ev_lengthOf hd.1, aft_v, sg_X8_tells_29, el, if_pos hi.2, ev_toldBy hd.1, aft_v, sg_X8_tells_51, tb_in hd hb.1 hh hi.1 hi.2]
        · show cm_x 222 0 [some (.inr (.inr 613)), some (.inl (b)), some (.inl (i)), none, none] [] (cm_hp D X) = _
          rw [sg_X9_tells_0, ev_mBlk hz6, e0', if_pos hb, aft_v, sg_X9_tells_10, if_neg (by omega), ev_mKind hmd hb.1, aft_v, if_pos hh]
          refine (em X).trans ?_
          exact if_pos hi
      · refine QQ_n hR (fun X => ?_) (fun X => ?_)
        · show cm_x 108 0 [some (.inr (.inr 0)), some (.inl (b)), some (.inl (i))] [] (cm_hp D X) = _
          rw [sg_X8_tells_0, ev_cb, if_pos hb, aft_n, sg_X8_tells_5, if_pos hh]
          by_cases h0 : i < 0
          · rw [if_pos h0]
          · rw [if_neg h0, ev_lengthOf hd.1, aft_v, sg_X8_tells_29, el, if_neg (by omega)]
        · show cm_x 222 0 [some (.inr (.inr 613)), some (.inl (b)), some (.inl (i)), none, none] [] (cm_hp D X) = _
          rw [sg_X9_tells_0, ev_mBlk hz6, e0', if_pos hb, aft_v, sg_X9_tells_10, if_neg (by omega), ev_mKind hmd hb.1, aft_v, if_pos hh]
          refine (em X).trans ?_
          exact if_neg hi
    · refine QQ_n hR (fun X => ?_) (fun X => ?_)
      · show cm_x 108 0 [some (.inr (.inr 0)), some (.inl (b)), some (.inl (i))] [] (cm_hp D X) = _
        rw [sg_X8_tells_0, ev_cb, if_pos hb, aft_n, sg_X8_tells_5, if_neg hh]
      · show cm_x 222 0 [some (.inr (.inr 613)), some (.inl (b)), some (.inl (i)), none, none] [] (cm_hp D X) = _
        rw [sg_X9_tells_0, ev_mBlk hz6, e0', if_pos hb, aft_v, sg_X9_tells_10, if_neg (by omega), ev_mKind hmd hb.1, aft_v, if_neg hh, sg_X9_tells_24, if_neg (by omega), if_neg (by omega), if_neg (by omega), if_neg (by omega), ev_isIn, if_neg (by omega), aft_v, sg_X9_tells_80, if_pos rfl, sg_X9_fail_0, aft_v, sg_X9_tells_97]
  · refine QQ_n hR (fun X => ?_) (fun X => ?_)
    · show cm_x 108 0 [some (.inr (.inr 0)), some (.inl (b)), some (.inl (i))] [] (cm_hp D X) = _
      rw [sg_X8_tells_0, ev_cb, if_neg hb, aft_e (y := 108) (p0 := 2) (e := 0) _ _ _ _ rfl]
    · show cm_x 222 0 [some (.inr (.inr 613)), some (.inl (b)), some (.inl (i)), none, none] [] (cm_hp D X) = _
      rw [sg_X9_tells_0, ev_mBlk hz6, e0', if_neg hb, aft_v, sg_X9_tells_10, if_pos rfl, sg_X9_fail_0, aft_v, sg_X9_tells_18]
theorem cHas_1 {n : Int} (hn : cHas D n ≠ 0) : (0 ≤ n ∧ n < 12) ∧ D 16 n ≠ 0 := by
  unfold cHas at hn
  by_cases h : 0 ≤ n ∧ n < 12 ∧ D 16 n ≠ 0
  · exact ⟨⟨h.1, h.2.1⟩, h.2.2⟩
  · rw [if_neg h] at hn; exact absurd rfl hn
theorem q_file (hR : R D t) (X : cm_X) (n w : Int) : QQ t D X (fun H => cm_x 111 0 [some (.inr (.inr 0)), some (.inl (n)), some (.inl (w))] [] H) (fun H => cm_x 225 0 [some (.inr (.inr 613)), some (.inl (n)), some (.inl (w))] [] H) 0 := by
  have hc := hR.1
  have hr := hc.2.2.2.2.1
  have hn := hc.2.2.2.2.2.1
  have eh : mHas ((cm_up D 613 0 0) 617) n = cHas D n := eq_has hr hn n
  by_cases hh : cHas D n = 0
  · refine QQ_n hR (fun X => ?_) (fun X => ?_)
    · show cm_x 111 0 [some (.inr (.inr 0)), some (.inl (n)), some (.inl (w))] [] (cm_hp D X) = _
      rw [sg_X8_file_0, ev_cf, if_pos hh, aft_e (y := 111) (p0 := 2) (e := 0) _ _ _ _ rfl]
    · show cm_x 225 0 [some (.inr (.inr 613)), some (.inl (n)), some (.inl (w))] [] (cm_hp D X) = _
      rw [sg_X9_file_0, ev_mFile, eh, aft_v, sg_X9_file_10, if_pos hh, sg_X9_fail_0, aft_v, sg_X9_file_18]
  · obtain ⟨⟨n0, n1⟩, nv⟩ := cHas_1 hh
    have r1 := hr.1 n n0 n1
    have hv : 0 ≤ D 16 n ∧ D 16 n ≤ 12 := (hn.2.1 n n0 n1).1
    have ev : D 617 n = D 16 n := by
      have : D 617 n = (if D 16 n = 0 then -1 else D 16 n) := r1.1
      rw [if_neg nv] at this
      exact this
    have em : D 617 (12 + n) = D 17 n := r1.2.1
    have ec : D 617 (24 + n) = D 18 n := r1.2.2
    have ew : D 617 (228 + D 16 n) = D 21 (D 16 n) := hr.2.2.1 _ hv.1 (by omega)
    have w0 : cm_wr (0 + n) = n := by rw [Int.zero_add]; exact cm_wr_id (by omega) (by omega)
    have w12 : cm_wr (12 + n) = 12 + n := cm_wr_id (by omega) (by omega)
    have w24 : cm_wr (24 + n) = 24 + n := cm_wr_id (by omega) (by omega)
    have w228 : cm_wr (228 + D 16 n) = 228 + D 16 n := cm_wr_id (by omega) (by omega)
    have q : (cm_up D 613 0 0) 617 = D 617 := rfl
    by_cases hw : 0 ≤ w ∧ w ≤ 3
    · have h4 : w = 0 ∨ w = 1 ∨ w = 2 ∨ w = 3 := by omega
      rcases h4 with rfl | rfl | rfl | rfl
      · refine QQ_s (v := D 17 n) hR (fun X => ?_) (fun X => ?_)
        · show cm_x 111 0 [some (.inr (.inr 0)), some (.inl (n)), some (.inl (0))] [] (cm_hp D X) = _
          rw [sg_X8_file_0, ev_cf, if_neg hh, aft_n, sg_X8_file_5, ev_cw, if_pos hw, aft_n, sg_X8_file_10, if_pos rfl, ck_t (by omega)]
        · show cm_x 225 0 [some (.inr (.inr 613)), some (.inl (n)), some (.inl (0))] [] (cm_hp D X) = _
          rw [sg_X9_file_0, ev_mFile, eh, aft_v, sg_X9_file_10, if_neg hh, if_pos rfl, w12, ck_t (by omega), q, em]
      · refine QQ_s (v := D 16 n) hR (fun X => ?_) (fun X => ?_)
        · show cm_x 111 0 [some (.inr (.inr 0)), some (.inl (n)), some (.inl (1))] [] (cm_hp D X) = _
          rw [sg_X8_file_0, ev_cf, if_neg hh, aft_n, sg_X8_file_5, ev_cw, if_pos hw, aft_n, sg_X8_file_10, if_neg (by omega), if_pos rfl, ck_t (by omega)]
        · show cm_x 225 0 [some (.inr (.inr 613)), some (.inl (n)), some (.inl (1))] [] (cm_hp D X) = _
          rw [sg_X9_file_0, ev_mFile, eh, aft_v, sg_X9_file_10, if_neg hh, if_neg (by omega), if_pos rfl, w0, ck_t (by omega), q, ev]
      · refine QQ_s (v := D 21 (D 16 n)) hR (fun X => ?_) (fun X => ?_)
        · show cm_x 111 0 [some (.inr (.inr 0)), some (.inl (n)), some (.inl (2))] [] (cm_hp D X) = _
          rw [sg_X8_file_0, ev_cf, if_neg hh, aft_n, sg_X8_file_5, ev_cw, if_pos hw, aft_n, sg_X8_file_10, if_neg (by omega), if_neg (by omega), if_pos rfl, sg_X6_entryOf_0, ck_t (by omega), ck_t (by omega), aft_v, sg_X8_file_64]
        · show cm_x 225 0 [some (.inr (.inr 613)), some (.inl (n)), some (.inl (2))] [] (cm_hp D X) = _
          rw [sg_X9_file_0, ev_mFile, eh, aft_v, sg_X9_file_10, if_neg hh, if_neg (by omega), if_neg (by omega), if_pos rfl, w0, ck_t (by omega), q, ev, w228, ck_t (by omega), ew]
      · refine QQ_s (v := D 18 n) hR (fun X => ?_) (fun X => ?_)
        · show cm_x 111 0 [some (.inr (.inr 0)), some (.inl (n)), some (.inl (3))] [] (cm_hp D X) = _
          have h01 : D 18 n = 0 ∨ D 18 n = 1 := (hn.2.1 n n0 n1).2.2.1
          rw [sg_X8_file_0, ev_cf, if_neg hh, aft_n, sg_X8_file_5, ev_cw, if_pos hw, aft_n, sg_X8_file_10, if_neg (by omega), if_neg (by omega), if_neg (by omega), ck_t (by omega)]
          rcases h01 with h01 | h01
          · rw [if_pos h01, h01]
          · rw [if_neg (by omega), h01]
        · show cm_x 225 0 [some (.inr (.inr 613)), some (.inl (n)), some (.inl (3))] [] (cm_hp D X) = _
          rw [sg_X9_file_0, ev_mFile, eh, aft_v, sg_X9_file_10, if_neg hh, if_neg (by omega), if_neg (by omega), if_neg (by omega), if_pos rfl, w24, ck_t (by omega), q, ec]
    · refine QQ_n hR (fun X => ?_) (fun X => ?_)
      · show cm_x 111 0 [some (.inr (.inr 0)), some (.inl (n)), some (.inl (w))] [] (cm_hp D X) = _
        rw [sg_X8_file_0, ev_cf, if_neg hh, aft_n, sg_X8_file_5, ev_cw, if_neg hw, aft_e (y := 111) (p0 := 7) (e := 0) _ _ _ _ rfl]
      · show cm_x 225 0 [some (.inr (.inr 613)), some (.inl (n)), some (.inl (w))] [] (cm_hp D X) = _
        rw [sg_X9_file_0, ev_mFile, eh, aft_v, sg_X9_file_10, if_neg hh, if_neg (by omega), if_neg (by omega), if_neg (by omega), if_neg (by omega), sg_X9_fail_0, aft_v, sg_X9_file_104]
theorem q_read (hR : R D t) (X : cm_X) (n c : Int) : QQ t D X (fun H => cm_x 113 0 [some (.inr (.inr 0)), some (.inl (n)), some (.inl (c))] [] H) (fun H => cm_x 226 0 [some (.inr (.inr 613)), some (.inl (n)), some (.inl (c))] [] H) 0 := by
  have hc := hR.1
  have hr := hc.2.2.2.2.1
  have hn := hc.2.2.2.2.2.1
  have eh : mHas ((cm_up D 613 0 0) 617) n = cHas D n := eq_has hr hn n
  by_cases hh : cHas D n = 0
  · refine QQ_n hR (fun X => ?_) (fun X => ?_)
    · show cm_x 113 0 [some (.inr (.inr 0)), some (.inl (n)), some (.inl (c))] [] (cm_hp D X) = _
      rw [sg_X8_read_0, ev_cf, if_pos hh, aft_e (y := 113) (p0 := 2) (e := 0) _ _ _ _ rfl]
    · show cm_x 226 0 [some (.inr (.inr 613)), some (.inl (n)), some (.inl (c))] [] (cm_hp D X) = _
      rw [sg_X9_read_0, ev_mFile, eh, aft_v, sg_X9_read_10, if_pos hh, sg_X9_fail_0, aft_v, sg_X9_read_55]
  · obtain ⟨⟨n0, n1⟩, nv⟩ := cHas_1 hh
    have hl : 0 ≤ D 17 n ∧ D 17 n ≤ 8 := (hn.2.1 n n0 n1).2.1
    have em : D 617 (12 + n) = D 17 n := (hr.1 n n0 n1).2.1
    have q : (cm_up D 613 0 0) 617 = D 617 := rfl
    have w12 : cm_wr (12 + n) = 12 + n := cm_wr_id (by omega) (by omega)
    have wl : cm_wr (D 17 n - 1) = D 17 n - 1 := cm_wr_id (by omega) (by omega)
    by_cases hi : 0 ≤ c ∧ c < D 17 n
    · have ev : D 617 (132 + 8 * n + c) = D 20 (n * 8 + c) := (hr.2.1 n c n0 n1 hi.1 hi.2).2
      refine QQ_s (v := D 20 (n * 8 + c)) hR (fun X => ?_) (fun X => ?_)
      · show cm_x 113 0 [some (.inr (.inr 0)), some (.inl (n)), some (.inl (c))] [] (cm_hp D X) = _
        rw [sg_X8_read_0, ev_cf, if_neg hh, aft_n, sg_X8_read_5, if_neg (by omega), ck_t (by omega), if_pos hi.2, sg_X6_numberOf_0]
        simp (disch := omega) only [cm_wr_id, ck_t, aft_v, sg_X8_read_41]
      · show cm_x 226 0 [some (.inr (.inr 613)), some (.inl (n)), some (.inl (c))] [] (cm_hp D X) = _
        rw [sg_X9_read_0, ev_mFile, eh, aft_v, sg_X9_read_10, if_neg hh, w12, ck_t (by omega), q, em, wl, ev_isIn, if_pos (by omega), aft_v, sg_X9_read_29, if_neg (by omega)]
        simp (disch := omega) only [cm_wr_id, ck_t, sg_X9_read_55]
        rw [q, ev]
    · refine QQ_n hR (fun X => ?_) (fun X => ?_)
      · show cm_x 113 0 [some (.inr (.inr 0)), some (.inl (n)), some (.inl (c))] [] (cm_hp D X) = _
        rw [sg_X8_read_0, ev_cf, if_neg hh, aft_n, sg_X8_read_5]
        by_cases h0 : c < 0
        · rw [if_pos h0]
        · rw [if_neg h0, ck_t (by omega), if_neg (by omega)]
      · show cm_x 226 0 [some (.inr (.inr 613)), some (.inl (n)), some (.inl (c))] [] (cm_hp D X) = _
        rw [sg_X9_read_0, ev_mFile, eh, aft_v, sg_X9_read_10, if_neg hh, w12, ck_t (by omega), q, em, wl, ev_isIn, if_neg (by omega), aft_v, sg_X9_read_29, if_pos rfl, sg_X9_fail_0, aft_v, sg_X9_read_55]
theorem q_found (hR : R D t) (X : cm_X) (b : Int) : QQ t D X (fun H => cm_x 145 0 [some (.inr (.inr 0)), some (.inl (b))] [] H) (fun H => cm_x 263 0 [some (.inr (.inr 613)), some (.inl (b))] [] H) 1 := by
  have hc := hR.1
  have hd := hc.1
  have e0' : (cm_up D 613 0 0) 614 0 = D 9 0 := hc.2.1 0 (by omega) (by omega)
  have epk : D 614 1 = D 9 1 := hc.2.1 1 (by omega) (by omega)
  have hmd : mdOk (cm_up D 613 0 0) (D 15 9) := Rc_md hc
  have hh0 := hd.2.2.2.2
  by_cases hb : 0 ≤ b ∧ b ≤ D 9 0
  · have hm : 0 ≤ cm_mn b (D 15 9) ∧ cm_mn b (D 15 9) ≤ D 15 9 := by
      by_cases h1 : b ≤ D 15 9
      · rw [mn_l h1]; omega
      · rw [mn_r (by omega)]; omega
    refine QQ_s (v := lgM (D 619) (D 9 1) (cm_mn b (D 15 9)).toNat) hR (fun X => ?_) (fun X => ?_)
    · show cm_x 145 0 [some (.inr (.inr 0)), some (.inl (b))] [] (cm_hp D X) = _
      rw [sg_X8_found_0, if_neg (by omega), if_neg (by omega), ev_last hd hm.1 hm.2, aft_v, sg_X8_found_44]
    · show cm_x 263 0 [some (.inr (.inr 613)), some (.inl (b))] [] (cm_hp D X) = _
      rw [sg_X9_found_0, hc.2.1 0 (by omega) (by omega), ev_isIn, if_pos hb, aft_v, sg_X9_found_16, if_neg (by omega), ev_mLast hmd hb.1, aft_v, sg_X9_found_24, sg_X9_found_32]
      show (some (.inl (some (.inl (lgM (D 619) (D 614 1) (cm_mn b (D 15 9)).toNat))), _) : cm_R) = _
      rw [epk]
  · refine QQ_n hR (fun X => ?_) (fun X => ?_)
    · show cm_x 145 0 [some (.inr (.inr 0)), some (.inl (b))] [] (cm_hp D X) = _
      rw [sg_X8_found_0]
      by_cases h0 : b < 0
      · rw [if_pos h0]
      · rw [if_neg h0, if_pos (by omega)]
    · show cm_x 263 0 [some (.inr (.inr 613)), some (.inl (b))] [] (cm_hp D X) = _
      rw [sg_X9_found_0, hc.2.1 0 (by omega) (by omega), ev_isIn, if_neg hb, aft_v, sg_X9_found_16, if_pos rfl, sg_X9_fail_0, aft_v, sg_X9_found_32]
