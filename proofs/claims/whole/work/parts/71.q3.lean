/-! queries of costs and of what was -/
variable {D E : Nat → Int → Int} {t h pk : Int} {K B : Int → Int}
def pkB (p c : Int) : Int := cm_wr (Int.tdiv (cm_wr (cm_wr (c + p) - 1)) p)
theorem pkB_eq {p c : Int} (h0 : 2 ≤ p) (h1 : p ≤ 16) (c0 : 0 ≤ c) (c1 : c ≤ 1000) : pkB p c = (c + p - 1) / p ∧ 0 ≤ pkB p c ∧ pkB p c ≤ c ∧ (1 ≤ c → 1 ≤ pkB p c) ∧ c ≤ p * pkB p c ∧ p * pkB p c < c + p := by
  unfold pkB
  have e1 : cm_wr (c + p) = c + p := cm_wr_id (by omega) (by omega)
  have e2 : cm_wr (c + p - 1) = c + p - 1 := cm_wr_id (by omega) (by omega)
  rw [e1, e2, Int.tdiv_eq_ediv_of_nonneg (by omega)]
  have hp : p = 2 ∨ p = 3 ∨ p = 4 ∨ p = 5 ∨ p = 6 ∨ p = 7 ∨ p = 8 ∨ p = 9 ∨ p = 10 ∨ p = 11 ∨ p = 12 ∨ p = 13 ∨ p = 14 ∨ p = 15 ∨ p = 16 := by omega
  have hb : 0 ≤ (c + p - 1) / p ∧ (c + p - 1) / p ≤ c ∧ (1 ≤ c → 1 ≤ (c + p - 1) / p) ∧ c ≤ p * ((c + p - 1) / p) ∧ p * ((c + p - 1) / p) < c + p := by
    rcases hp with rfl | rfl | rfl | rfl | rfl | rfl | rfl | rfl | rfl | rfl | rfl | rfl | rfl | rfl | rfl <;> omega
  have e3 : cm_wr ((c + p - 1) / p) = (c + p - 1) / p := cm_wr_id (by omega) (by omega)
  rw [e3]
  exact ⟨rfl, hb⟩
theorem ev_pkBy {X : cm_X} {p : Int} (hp : 2 ≤ p) (c : Int) : cm_x 151 0 [some (.inl (p)), some (.inl (c))] [] (cm_hp D X) = some (.inl (some (.inl (pkB p c))), cm_hp D X) := by
  rw [sg_X8_packetsBy_0, if_neg (by omega), ck_t (by omega)]
  rfl
theorem ev_mUp {X : cm_X} {p : Int} (hp : 2 ≤ p) (c : Int) : cm_x 201 0 [some (.inl (c)), some (.inl (p))] [] (cm_hp D X) = some (.inl (some (.inl (pkB p c))), cm_hp D X) := by
  rw [sg_X9_up_0, ck_t (by omega)]
  rfl
theorem ev_pkFor {X : cm_X} (hz : zOk D) (c : Int) : cm_x 26 0 [some (.inr (.inr 9)), some (.inl (c))] [] (cm_hp D X) = some (.inl (some (.inl (pkB (D 9 1) c))), cm_hp D X) := by
  rw [sg_X2_packetsFor_0, ev_pkBy hz.2.1.1, aft_v, sg_X2_packetsFor_8]
theorem ev_costOf {X : cm_X} (hz : zOk D) (c : Int) : cm_x 27 0 [some (.inr (.inr 9)), some (.inl (c))] [] (cm_hp D X) = some (.inl (some (.inl (cm_wr (pkB (D 9 1) c * cm_wr (D 9 2 + D 9 1))))), cm_hp D X) := by
  rw [sg_X2_costOf_0, ev_pkFor hz, aft_v, sg_X2_costOf_5]
theorem ev_mCost {X : cm_X} {p : Int} (hp : 2 ≤ p) (c : Int) : cm_x 259 0 [some (.inr (.inr 613)), some (.inl (c)), some (.inl (p))] [] (cm_hp D X) = some (.inl (some (.inl (cm_wr (pkB p c * cm_wr (D 614 2 + p))))), cm_hp D X) := by
  rw [sg_X9_costOf_0, ev_mUp hp, aft_v, sg_X9_costOf_5]
theorem ev_pkNow {X : cm_X} (hz : zOk D) (hl : lOk D) : cm_x 131 0 [some (.inr (.inr 0))] [] (cm_hp D X) = some (.inl (some (.inl (pkB (D 9 1) (cCnt D)))), cm_hp D X) := by
  rw [sg_X8_packetsNow_0, ev_contentCount hl, aft_v, sg_X8_packetsNow_11, ev_pkFor hz, aft_v, sg_X8_packetsNow_14]
theorem cCnt_0 (hn : nS (stt D 15)) : (cAny D = 0 → cCnt D = 0) ∧ (cAny D ≠ 0 → cCnt D = cCon D + 1 ∧ 1 ≤ cCon D) := by
  have hb := cCon_b (eq_lok hn)
  have h0 := eq_con0 hn
  unfold cCnt
  refine ⟨fun ha => ?_, fun ha => ?_⟩
  · rw [if_pos (h0.mpr ha)]
  · have : cCon D ≠ 0 := fun z => ha (h0.mp z)
    rw [if_neg this, cm_wr_id (by omega) (by omega)]
    omega
theorem cCnt_b (hn : nS (stt D 15)) : 0 ≤ cCnt D ∧ cCnt D ≤ 110 := by
  have hb := cCon_b (eq_lok hn)
  have := cCnt_0 hn
  by_cases h : cAny D = 0
  · have := this.1 h; omega
  · have := this.2 h; omega
theorem q_cost (hR : R D t) (X : cm_X) (w : Int) : QQ t D X (fun H => cm_x 143 0 [some (.inr (.inr 0)), some (.inl (w)), none] [] H) (fun H => cm_x 261 0 [some (.inr (.inr 613)), some (.inl (w)), none] [] H) 0 := by
  have hc := hR.1
  have hr := hc.2.2.2.2.1
  have hn := hc.2.2.2.2.2.1
  have hz := hc.1.1
  have hlo := lo_15 hc
  have hmo : mOk ((cm_up D 613 0 0) 617) := mo_617 hc
  have ea : mAny ((cm_up D 613 0 0) 617) = cAny D := eq_any hr hn
  have eth : mThs ((cm_up D 613 0 0) 617) = cm_wr (cCon D + 1) := eq_things hr hn
  have epk : (cm_up D 613 0 0) 614 1 = D 9 1 := hc.2.1 1 (by omega) (by omega)
  have ern : (cm_up D 613 0 0) 614 2 = D 9 2 := hc.2.1 2 (by omega) (by omega)
  have hcb := cCon_b hlo
  have hpk := hz.2.1
  by_cases hw : 0 ≤ w ∧ w ≤ 2
  · by_cases ha : cAny D = 0
    · have h0 := (cCnt_0 hn).1 ha
      have hp0 : pkB (D 9 1) 0 = 0 := by have := pkB_eq hpk.1 hpk.2 (Int.le_refl 0) (by omega); omega
      refine QQ_s (v := 0) hR (fun X => ?_) (fun X => ?_)
      · show cm_x 143 0 [some (.inr (.inr 0)), some (.inl (w)), none] [] (cm_hp D X) = _
        rw [sg_X8_cost_0, ev_cw, if_pos hw, aft_n, sg_X8_cost_5, ev_pkNow hz hlo, aft_v, sg_X8_cost_9, h0, hp0]
        by_cases w0 : w = 0
        · rw [if_pos w0]
        · by_cases w1 : w = 1
          · rw [if_neg w0, if_pos w1, Int.zero_mul]
            rfl
          · rw [if_neg w0, if_neg w1, ev_contentCount hlo, aft_v, sg_X8_cost_72, h0, Int.zero_mul]
            rfl
      · show cm_x 261 0 [some (.inr (.inr 613)), some (.inl (w)), none] [] (cm_hp D X) = _
        rw [sg_X9_cost_0, ev_isIn, if_pos hw, aft_v, sg_X9_cost_11, if_neg (by omega), ev_mAny, ea, aft_v, sg_X9_cost_24, if_pos ha]
    · have h0 := ((cCnt_0 hn).2 ha).1
      have ew : cm_wr (cCon D + 1) = cCnt D := by rw [h0]; exact cm_wr_id (by omega) (by omega)
      rw [ew] at eth
      by_cases w0 : w = 0
      · refine QQ_s (v := pkB (D 9 1) (cCnt D)) hR (fun X => ?_) (fun X => ?_)
        · show cm_x 143 0 [some (.inr (.inr 0)), some (.inl (w)), none] [] (cm_hp D X) = _
          rw [sg_X8_cost_0, ev_cw, if_pos hw, aft_n, sg_X8_cost_5, ev_pkNow hz hlo, aft_v, sg_X8_cost_9, if_pos w0]
        · show cm_x 261 0 [some (.inr (.inr 613)), some (.inl (w)), none] [] (cm_hp D X) = _
          rw [sg_X9_cost_0, ev_isIn, if_pos hw, aft_v, sg_X9_cost_11, if_neg (by omega), ev_mAny, ea, aft_v, sg_X9_cost_24, if_neg ha, ev_mThings hmo, aft_v, sg_X9_cost_33, epk, ev_mUp hpk.1, aft_v, sg_X9_cost_42, if_pos w0, eth]
      · by_cases w1 : w = 1
        · refine QQ_s (v := cm_wr (pkB (D 9 1) (cCnt D) * cm_wr (D 9 2 + D 9 1))) hR (fun X => ?_) (fun X => ?_)
          · show cm_x 143 0 [some (.inr (.inr 0)), some (.inl (w)), none] [] (cm_hp D X) = _
            rw [sg_X8_cost_0, ev_cw, if_pos hw, aft_n, sg_X8_cost_5, ev_pkNow hz hlo, aft_v, sg_X8_cost_9, if_neg w0, if_pos w1]
          · show cm_x 261 0 [some (.inr (.inr 613)), some (.inl (w)), none] [] (cm_hp D X) = _
            rw [sg_X9_cost_0, ev_isIn, if_pos hw, aft_v, sg_X9_cost_11, if_neg (by omega), ev_mAny, ea, aft_v, sg_X9_cost_24, if_neg ha, ev_mThings hmo, aft_v, sg_X9_cost_33, epk, ev_mUp hpk.1, aft_v, sg_X9_cost_42, if_neg w0, if_pos w1, ev_mThings hmo, aft_v, sg_X9_cost_61, epk, ev_mCost hpk.1, aft_v, sg_X9_cost_70, eth, ern]
        · refine QQ_s (v := cm_wr (cm_wr (pkB (D 9 1) (cCnt D) * D 9 1) - cCnt D)) hR (fun X => ?_) (fun X => ?_)
          · show cm_x 143 0 [some (.inr (.inr 0)), some (.inl (w)), none] [] (cm_hp D X) = _
            rw [sg_X8_cost_0, ev_cw, if_pos hw, aft_n, sg_X8_cost_5, ev_pkNow hz hlo, aft_v, sg_X8_cost_9, if_neg w0, if_neg w1, ev_contentCount hlo, aft_v, sg_X8_cost_72]
          · show cm_x 261 0 [some (.inr (.inr 613)), some (.inl (w)), none] [] (cm_hp D X) = _
            rw [sg_X9_cost_0, ev_isIn, if_pos hw, aft_v, sg_X9_cost_11, if_neg (by omega), ev_mAny, ea, aft_v, sg_X9_cost_24, if_neg ha, ev_mThings hmo, aft_v, sg_X9_cost_33, epk, ev_mUp hpk.1, aft_v, sg_X9_cost_42, if_neg w0, if_neg w1, ev_mThings hmo, aft_v, sg_X9_cost_85, epk, eth]
  · refine QQ_n hR (fun X => ?_) (fun X => ?_)
    · show cm_x 143 0 [some (.inr (.inr 0)), some (.inl (w)), none] [] (cm_hp D X) = _
      rw [sg_X8_cost_0, ev_cw, if_neg hw, aft_e (y := 143) (p0 := 2) (e := 0) _ _ _ _ rfl]
    · show cm_x 261 0 [some (.inr (.inr 613)), some (.inl (w)), none] [] (cm_hp D X) = _
      rw [sg_X9_cost_0, ev_isIn, if_neg hw, aft_v, sg_X9_cost_11, if_pos rfl, sg_X9_fail_0, aft_v, sg_X9_cost_19]
theorem q_left (hR : R D t) (X : cm_X) : MM t D X (fun H => cm_x 146 0 [some (.inr (.inr 0)), none, none] [] H) (fun H => cm_x 264 0 [some (.inr (.inr 613)), none] [] H) := by
  have hc := hR.1
  have hr := hc.2.2.2.2.1
  have hz := hc.1.1
  have hpk := hz.2.1
  have hrn := hz.2.2.1
  have epk : (cm_up D 613 0 0) 614 1 = D 9 1 := hc.2.1 1 (by omega) (by omega)
  have ern : (cm_up D 613 0 0) 614 2 = D 9 2 := hc.2.1 2 (by omega) (by omega)
  have e0 : D 614 0 = D 9 0 := hc.2.1 0 (by omega) (by omega)
  have e1 : D 614 1 = D 9 1 := hc.2.1 1 (by omega) (by omega)
  have e3 : D 614 3 = D 9 3 := hc.2.1 3 (by omega) (by omega)
  have eh : D 617 244 = D 15 9 := hr.2.2.2.2.2.2.1
  have hp := pkB_eq hpk.1 hpk.2 (show (0 : Int) ≤ 3 by omega) (by omega)
  have ew : cm_wr (D 9 2 + D 9 1) = D 9 2 + D 9 1 := cm_wr_id (by omega) (by omega)
  have hb : 1 ≤ cm_wr (pkB (D 9 1) 3 * cm_wr (D 9 2 + D 9 1)) := by
    rw [ew]
    have hp3 : pkB (D 9 1) 3 = 1 ∨ pkB (D 9 1) 3 = 2 ∨ pkB (D 9 1) 3 = 3 := by omega
    rcases hp3 with h | h | h
    · rw [h, Int.one_mul, cm_wr_id (by omega) (by omega)]; omega
    · rw [h, cm_wr_id (by omega) (by omega)]; omega
    · rw [h, cm_wr_id (by omega) (by omega)]; omega
  by_cases hq : cm_wr (cm_wr (D 9 0 - D 9 3) - D 15 9) < 0
  · refine MM_s (v := 0) hR (fun X => ?_) (fun X => ?_)
    · show cm_x 146 0 [some (.inr (.inr 0)), none, none] [] (cm_hp D X) = _
      rw [sg_X8_left_0, ev_costOf hz, aft_v, sg_X8_left_8, if_pos hq]
    · show cm_x 264 0 [some (.inr (.inr 613)), none] [] (cm_hp D X) = _
      rw [sg_X9_left_0, e0, e3, eh, if_pos hq]
  · refine MM_s (v := cm_wr (Int.tdiv (cm_wr (cm_wr (D 9 0 - D 9 3) - D 15 9)) (cm_wr (pkB (D 9 1) 3 * cm_wr (D 9 2 + D 9 1))))) hR (fun X => ?_) (fun X => ?_)
    · show cm_x 146 0 [some (.inr (.inr 0)), none, none] [] (cm_hp D X) = _
      rw [sg_X8_left_0, ev_costOf hz, aft_v, sg_X8_left_8, if_neg hq, if_neg (by omega), ck_t (by omega)]
    · show cm_x 264 0 [some (.inr (.inr 613)), none] [] (cm_hp D X) = _
      rw [sg_X9_left_0, e0, e1, e3, eh, if_neg hq, ev_mCost hpk.1, aft_v, sg_X9_left_48, ern, ck_t (by omega)]
theorem ev_mapOr {X : cm_X} (hc : Rc D) {k : Int} (hk : k < 2147483648) : cm_x 116 0 [some (.inr (.inr 0)), some (.inl (k)), none] [] (cm_hp D X) = if (if k < 0 then -1 else alg (D 620) k.toNat (D 15 7)) = -1 then some (.inr 0, cm_hp D (cm_xx X)) else some (.inl (some (.inl ((if k < 0 then -1 else alg (D 620) k.toNat (D 15 7))))), cm_hp D X) := by
  rw [sg_X8_mapOrThrow_0, ev_mapAlong hc.1 (mp_15 hc) hk, aft_v, sg_X8_mapOrThrow_15]
theorem ev_numBy {X : cm_X} (hd : dOk D K B h) {e m : Int} (he : entOk K B e m) (hm : m ≤ h) {c : Int} (c0 : 0 ≤ c) : cm_x 37 0 [some (.inr (.inr 9)), some (.inl (e)), some (.inl (c))] [] (cm_hp D X) = some (.inl (some (.inl (if c < B (15 * e + 8) then mCel B e c else -1))), cm_hp D X) := by
  by_cases c1 : c < B (15 * e + 8)
  · rw [if_pos c1, ev_numberBy hd he hm c0 c1]
  · rw [if_neg c1, sg_X2_numberBy_0, ev_toldBy hd.1, aft_v, sg_X2_numberBy_7, ev_toldBy hd.1, aft_v, sg_X2_numberBy_11]
    have e2 : tb D e c = -1 := by
      unfold tb
      rw [if_neg]
      have := (hd.2.1 e he.1.1 (by have := he.1.2; omega)).2.2.2.1
      have em : mLen (K e) (B (15 * e + 8)) = B (15 * e + 8) := by unfold mLen; rw [if_neg (by have := he.2.1; omega), if_pos he.2.1]
      omega
    rw [e2, tb_none]
theorem q_past (hR : R D t) (X : cm_X) {k : Int} (hk : i32 k) (n c : Int) : QQ t D X (fun H => cm_x 115 0 [some (.inr (.inr 0)), some (.inl (k)), some (.inl (n)), some (.inl (c)), none, none] [] H) (fun H => cm_x 230 0 [some (.inr (.inr 613)), some (.inl (k)), some (.inl (n)), some (.inl (c)), none, none] [] H) 0 := by
  have hc := hR.1
  have hd := hc.1
  have hr := hc.2.2.2.2.1
  have e242 : D 617 242 = D 15 7 := hr.2.2.2.2.1
  have epk : D 614 1 = D 9 1 := hc.2.1 1 (by omega) (by omega)
  have hmd : mdOk (cm_up D 613 0 0) (D 15 9) := Rc_md hc
  have hmq : mpO ((cm_up D 613 0 0) 619) ((cm_up D 613 0 0) 614 1) (D 15 9) ((cm_up D 613 0 0) 617 242) := mp_617 hc
  have emb : (if k < 0 then -1 else alg ((cm_up D 613 0 0) 620) k.toNat ((cm_up D 613 0 0) 617 242)) = (if k < 0 then -1 else alg (D 620) k.toNat (D 15 7)) := by
    show (if k < 0 then -1 else alg (D 620) k.toNat (D 617 242)) = _
    rw [e242]
  have hm : mpO (D 619) (D 9 1) (D 15 9) (if k < 0 then -1 else alg (D 620) k.toNat (D 15 7)) := by
    by_cases h0 : k < 0
    · rw [if_pos h0]; exact Or.inl rfl
    · rw [if_neg h0]; exact alg_ok (d_g hd) _ (mp_15 hc)
  have cm := fun X => ev_mapOr (X := X) hc hk.2
  have mm := fun X => ev_mapBack (X := X) hmd hmq hk.2
  rw [emb] at mm
  generalize (if k < 0 then -1 else alg (D 620) k.toNat (D 15 7)) = m at hm cm mm
  by_cases h1 : m = -1
  · refine QQ_n hR (fun X => ?_) (fun X => ?_)
    · show cm_x 115 0 [some (.inr (.inr 0)), some (.inl (k)), some (.inl (n)), some (.inl (c)), none, none] [] (cm_hp D X) = _
      rw [sg_X8_past_0, cm, if_pos h1, aft_e (y := 115) (p0 := 2) (e := 0) _ _ _ _ rfl]
    · show cm_x 230 0 [some (.inr (.inr 613)), some (.inl (k)), some (.inl (n)), some (.inl (c)), none, none] [] (cm_hp D X) = _
      rw [sg_X9_past_0, mm, aft_v, sg_X9_past_10, if_pos h1, sg_X9_fail_0, aft_v, sg_X9_past_41]
  · by_cases h2 : 0 ≤ n ∧ n < 12
    · by_cases h3 : -1 ≤ c ∧ c ≤ 7
      · have hmm : mpO ((cm_up D 613 0 0) 619) ((cm_up D 613 0 0) 614 1) (D 15 9) m := by
          show mpO (D 619) (D 614 1) (D 15 9) m
          rw [epk]; exact hm
        have ecls : ∀ X, cm_x 115 0 [some (.inr (.inr 0)), some (.inl (k)), some (.inl (n)), some (.inl (c)), none, none] [] (cm_hp D X) = cm_x 115 30 [some (.inr (.inr 0)), some (.inl (k)), some (.inl (n)), some (.inl (c)), some (.inl (m)), none] [.inl (mEnt (D 620) m n)] (cm_hp D X) := fun X => by
          rw [sg_X8_past_0, cm, if_neg h1, aft_v, sg_X8_past_5, ev_cn, if_pos h2, aft_n, sg_X8_past_11]
          by_cases c1 : c = -1
          · rw [if_pos c1, sg_X8_past_20, ev_entryBy hd hm h2.1 h2.2, aft_v, if_neg h1]
          · rw [if_neg c1, ev_cc, if_pos (by omega), aft_n, sg_X8_past_20, ev_entryBy hd hm h2.1 h2.2, aft_v, if_neg h1]
        have emdl : ∀ X, cm_x 230 0 [some (.inr (.inr 613)), some (.inl (k)), some (.inl (n)), some (.inl (c)), none, none] [] (cm_hp D X) = cm_x 230 49 [some (.inr (.inr 613)), some (.inl (k)), some (.inl (n)), some (.inl (c)), some (.inl (m)), none] [.inl (mEnt (D 620) m n)] (cm_hp (cm_up D 613 0 0) X) := fun X => by
          rw [sg_X9_past_0, mm, aft_v, sg_X9_past_10, if_neg h1, ev_mName, if_pos h2, aft_v, sg_X9_past_23, if_neg (by omega), ev_isIn, if_pos h3, aft_v, sg_X9_past_33, if_neg (by omega), ev_mEntryBy hmd hmm h1 h2.1 h2.2, aft_v]
          rfl
        by_cases he : mEnt (D 620) m n = -1
        · refine QQ_s (v := -1) hR (fun X => ?_) (fun X => ?_)
          · rw [ecls, sg_X8_past_30, if_pos he]
          · rw [emdl, sg_X9_past_49, if_pos he]
        · have eo := mEnt_ok (d_g hd) hm h1 h2.1 h2.2 he
          have hmh : m ≤ D 15 9 := by rcases hm with hm | ⟨⟨_, _⟩, _⟩ <;> omega
          have hh := (d_g hd).2.2.2
          have e1 := eo.1
          by_cases c1 : c = -1
          · refine QQ_s (v := D 620 (15 * mEnt (D 620) m n + 8)) hR (fun X => ?_) (fun X => ?_)
            · rw [ecls, sg_X8_past_30, if_neg he, if_pos c1, ev_lenE hd eo hmh, aft_v, sg_X8_past_54, sg_X8_past_67]
            · rw [emdl, sg_X9_past_49, if_neg he, if_pos c1, ev_mMany (by omega) (by omega), aft_v, sg_X9_past_70]
              rfl
          · refine QQ_s (v := if c < D 620 (15 * mEnt (D 620) m n + 8) then mCel (D 620) (mEnt (D 620) m n) c else -1) hR (fun X => ?_) (fun X => ?_)
            · rw [ecls, sg_X8_past_30, if_neg he, if_neg c1, ev_numBy hd eo hmh (by omega), aft_v, sg_X8_past_67]
            · rw [emdl, sg_X9_past_49, if_neg he, if_neg c1, ev_mMany (by omega) (by omega), aft_v, sg_X9_past_80]
              have q : (cm_up D 613 0 0) 620 = D 620 := rfl
              rw [q]
              by_cases c2 : c < D 620 (15 * mEnt (D 620) m n + 8)
              · rw [if_pos c2, if_pos c2, ev_mCellBy hmd (e := mEnt (D 620) m n) (m := m) eo hmh (by omega) c2, aft_v, sg_X9_past_90, q]
              · rw [if_neg c2, if_neg c2]
      · refine QQ_n hR (fun X => ?_) (fun X => ?_)
        · show cm_x 115 0 [some (.inr (.inr 0)), some (.inl (k)), some (.inl (n)), some (.inl (c)), none, none] [] (cm_hp D X) = _
          rw [sg_X8_past_0, cm, if_neg h1, aft_v, sg_X8_past_5, ev_cn, if_pos h2, aft_n, sg_X8_past_11, if_neg (by omega), ev_cc, if_neg (by omega), aft_e (y := 115) (p0 := 17) (e := 0) _ _ _ _ rfl]
        · show cm_x 230 0 [some (.inr (.inr 613)), some (.inl (k)), some (.inl (n)), some (.inl (c)), none, none] [] (cm_hp D X) = _
          rw [sg_X9_past_0, mm, aft_v, sg_X9_past_10, if_neg h1, ev_mName, if_pos h2, aft_v, sg_X9_past_23, if_neg (by omega), ev_isIn, if_neg h3, aft_v, sg_X9_past_33, if_pos rfl, sg_X9_fail_0, aft_v, sg_X9_past_41]
    · refine QQ_n hR (fun X => ?_) (fun X => ?_)
      · show cm_x 115 0 [some (.inr (.inr 0)), some (.inl (k)), some (.inl (n)), some (.inl (c)), none, none] [] (cm_hp D X) = _
        rw [sg_X8_past_0, cm, if_neg h1, aft_v, sg_X8_past_5, ev_cn, if_neg h2, aft_e (y := 115) (p0 := 8) (e := 0) _ _ _ _ rfl]
      · show cm_x 230 0 [some (.inr (.inr 613)), some (.inl (k)), some (.inl (n)), some (.inl (c)), none, none] [] (cm_hp D X) = _
        rw [sg_X9_past_0, mm, aft_v, sg_X9_past_10, if_neg h1, ev_mName, if_neg h2, aft_v, sg_X9_past_23, if_pos rfl, sg_X9_fail_0, aft_v, sg_X9_past_41]
