/-! queries: both answer alike -/
variable {D E : Nat → Int → Int} {t : Int}
def qC (e : Nat) (o : Option Int) (D : Nat → Int → Int) (X : cm_X) : cm_R := match o with
  | some v => some (.inl (some (.inl v)), cm_hp D X)
  | none => some (.inr e, cm_hp D (cm_xx X))
def qM (o : Option Int) : Int := match o with
  | some _ => 0
  | none => 1
/-- a call that may throw: both answer alike, the relation holds again -/
def QQ (t : Int) (D : Nat → Int → Int) (X : cm_X) (cl md : cm_H → cm_R) (e : Nat) : Prop := ∃ (o : Option Int) (D' : Nat → Int → Int), cl (cm_hp D X) = qC e o D' X ∧ ∀ Y, ∃ E : Nat → Int → Int, md (cm_hp D' Y) = some (.inl (some (.inl (o.getD 0))), cm_hp E Y) ∧ E 613 0 = qM o ∧ R E (t + 400) ∧ E 100000 = D 100000
/-- a call that never throws -/
def MM (t : Int) (D : Nat → Int → Int) (X : cm_X) (cl md : cm_H → cm_R) : Prop := ∃ (v : Int) (D' : Nat → Int → Int), cl (cm_hp D X) = some (.inl (some (.inl v)), cm_hp D' X) ∧ ∀ Y, ∃ E : Nat → Int → Int, md (cm_hp D' Y) = some (.inl (some (.inl v)), cm_hp E Y) ∧ R E (t + 400) ∧ E 100000 = D 100000
theorem R_c0 (hR : R D t) : R (cm_up D 613 0 0) (t + 400) := R_eq (eqR_6 (by omega)) (lk_mono hR.2.2.2.2 (by omega)) hR
theorem R_c1 (hR : R D t) : R (cm_up (cm_up D 613 0 0) 613 0 1) (t + 400) := R_eq (eqR_tr (eqR_6 (by omega)) (eqR_6 (by omega))) (lk_mono hR.2.2.2.2 (by omega)) hR
theorem QQ_s {X : cm_X} {cl md : cm_H → cm_R} {e : Nat} {v : Int} (hR : R D t) (hc : ∀ X, cl (cm_hp D X) = some (.inl (some (.inl v)), cm_hp D X)) (hm : ∀ X, md (cm_hp D X) = some (.inl (some (.inl v)), cm_hp (cm_up D 613 0 0) X)) : QQ t D X cl md e := ⟨some v, D, hc X, fun Y => ⟨cm_up D 613 0 0, hm Y, rfl, R_c0 hR, rfl⟩⟩
theorem QQ_n {X : cm_X} {cl md : cm_H → cm_R} {e : Nat} (hR : R D t) (hc : ∀ X, cl (cm_hp D X) = some (.inr e, cm_hp D (cm_xx X))) (hm : ∀ X, md (cm_hp D X) = some (.inl (some (.inl 0)), cm_hp (cm_up (cm_up D 613 0 0) 613 0 1) X)) : QQ t D X cl md e := ⟨none, D, hc X, fun Y => ⟨_, hm Y, rfl, R_c1 hR, rfl⟩⟩
theorem MM_s {X : cm_X} {cl md : cm_H → cm_R} {v : Int} (hR : R D t) (hc : ∀ X, cl (cm_hp D X) = some (.inl (some (.inl v)), cm_hp D X)) (hm : ∀ X, md (cm_hp D X) = some (.inl (some (.inl v)), cm_hp (cm_up D 613 0 0) X)) : MM t D X cl md := ⟨v, D, hc X, fun Y => ⟨cm_up D 613 0 0, hm Y, R_c0 hR, rfl⟩⟩
theorem q_fault (hR : R D t) (X : cm_X) : MM t D X (fun H => cm_x 105 0 [some (.inr (.inr 0))] [] H) (fun H => cm_x 182 0 [some (.inr (.inr 613))] [] H) := MM_s hR (fun X => sg_X8_fault_0 D X) (fun X => by
  show cm_x 182 0 [some (.inr (.inr 613))] [] (cm_hp D X) = _
  rw [sg_X9_fault_0, hR.2.2.2.1.2.2.1])
theorem ev_cw {X : cm_X} (w m : Int) : cm_x 110 0 [some (.inl (w)), some (.inl (m))] [] (cm_hp D X) = if 0 ≤ w ∧ w ≤ m then some (.inl none, cm_hp D X) else some (.inr 0, cm_hp D (cm_xx X)) := by
  rw [sg_X8_checkWhat_0]
  by_cases h1 : w < 0
  · rw [if_pos h1, if_neg (by omega)]
  · rw [if_neg h1]
    by_cases h2 : m < w
    · rw [if_pos h2, if_neg (by omega)]
    · rw [if_neg h2, if_pos (by omega)]
theorem ev_cb {X : cm_X} (b : Int) : cm_x 109 0 [some (.inr (.inr 0)), some (.inl (b))] [] (cm_hp D X) = if 0 ≤ b ∧ b < D 9 0 then some (.inl none, cm_hp D X) else some (.inr 0, cm_hp D (cm_xx X)) := by
  rw [sg_X8_checkBlock_0]
  by_cases h1 : b < 0
  · rw [if_pos h1, if_neg (by omega)]
  · rw [if_neg h1]
    by_cases h2 : b < D 9 0
    · rw [if_pos h2, if_pos (by omega)]
    · rw [if_neg h2, if_neg (by omega)]
theorem ev_cf {X : cm_X} (n : Int) : cm_x 114 0 [some (.inr (.inr 0)), some (.inl (n))] [] (cm_hp D X) = if cHas D n = 0 then some (.inr 0, cm_hp D (cm_xx X)) else some (.inl none, cm_hp D X) := by
  rw [sg_X8_checkFile_0, ev_has, aft_v, sg_X8_checkFile_8]
theorem ev_cn {X : cm_X} (n : Int) : cm_x 117 0 [some (.inl (n))] [] (cm_hp D X) = if 0 ≤ n ∧ n < 12 then some (.inl none, cm_hp D X) else some (.inr 0, cm_hp D (cm_xx X)) := by
  rw [sg_X8_checkName_0, ev_isName, aft_v, sg_X8_checkName_4]
  by_cases h1 : 0 ≤ n ∧ n < 12
  · rw [if_pos h1, if_neg (by omega), if_pos h1]
  · rw [if_neg h1, if_pos rfl, if_neg h1]
theorem ev_cc {X : cm_X} (c : Int) : cm_x 118 0 [some (.inl (c))] [] (cm_hp D X) = if 0 ≤ c ∧ c < 8 then some (.inl none, cm_hp D X) else some (.inr 0, cm_hp D (cm_xx X)) := by
  rw [sg_X8_checkCell_0]
  by_cases h1 : c < 0
  · rw [if_pos h1, if_neg (by omega)]
  · rw [if_neg h1]
    by_cases h2 : c < 8
    · rw [if_pos h2, if_pos (by omega)]
    · rw [if_neg h2, if_neg (by omega)]
theorem mo_617 (hR : Rc D) : mOk (D 617) := eq_mok hR.2.2.2.2.1 hR.2.2.2.2.2.1
theorem lo_15 (hR : Rc D) : lOk D := eq_lok hR.2.2.2.2.2.1
theorem mp_15 (hR : Rc D) : mpO (D 619) (D 9 1) (D 15 9) (D 15 7) := hR.2.2.2.2.2.2.1.2.1
theorem mp_617 (hR : Rc D) : mpO (D 619) (D 614 1) (D 15 9) (D 617 242) := by
  rw [hR.2.2.2.2.1.2.2.2.2.1, hR.2.1 1 (by omega) (by omega)]
  exact mp_15 hR
theorem q_count (hR : R D t) (ht : 0 ≤ t ∧ t < 1000000) (X : cm_X) (x : Int) : QQ t D X (fun H => cm_x 106 0 [some (.inr (.inr 0)), some (.inl (x))] [] H) (fun H => cm_x 219 0 [some (.inr (.inr 613)), some (.inl (x))] [] H) 0 := by
  have hc := hR.1
  have hd := hc.1
  have hr := hc.2.2.2.2.1
  have hn := hc.2.2.2.2.2.1
  have hlo := lo_15 hc
  have hmo : mOk ((cm_up D 613 0 0) 617) := mo_617 hc
  have hmd : mdOk (cm_up D 613 0 0) (D 15 9) := Rc_md hc
  have hmp := mp_15 hc
  have hmq : mpO ((cm_up D 613 0 0) 619) ((cm_up D 613 0 0) 614 1) (D 15 9) ((cm_up D 613 0 0) 617 242) := mp_617 hc
  have epk : D 614 1 = D 9 1 := hc.2.1 1 (by omega) (by omega)
  have e242 : D 617 242 = D 15 7 := hr.2.2.2.2.1
  by_cases h0 : x = 0
  · subst h0
    refine QQ_s (v := D 9 0) hR (fun X => ?_) (fun X => ?_)
    · show cm_x 106 0 [some (.inr (.inr 0)), some (.inl (0))] [] (cm_hp D X) = _
      rw [sg_X8_count_0, if_pos rfl]
    · show cm_x 219 0 [some (.inr (.inr 613)), some (.inl (0))] [] (cm_hp D X) = _
      rw [sg_X9_count_0, if_pos rfl, ck_t (by omega), hc.2.1 0 (by omega) (by omega)]
  by_cases h1 : x = 1
  · subst h1
    refine QQ_s (v := D 9 1) hR (fun X => ?_) (fun X => ?_)
    · show cm_x 106 0 [some (.inr (.inr 0)), some (.inl (1))] [] (cm_hp D X) = _
      rw [sg_X8_count_0, if_neg (by omega), if_pos rfl]
    · show cm_x 219 0 [some (.inr (.inr 613)), some (.inl (1))] [] (cm_hp D X) = _
      rw [sg_X9_count_0, if_neg (by omega), if_pos rfl, ck_t (by omega), hc.2.1 1 (by omega) (by omega)]
  by_cases h2 : x = 2
  · subst h2
    refine QQ_s (v := D 9 2) hR (fun X => ?_) (fun X => ?_)
    · show cm_x 106 0 [some (.inr (.inr 0)), some (.inl (2))] [] (cm_hp D X) = _
      rw [sg_X8_count_0, if_neg (by omega), if_neg (by omega), if_pos rfl]
    · show cm_x 219 0 [some (.inr (.inr 613)), some (.inl (2))] [] (cm_hp D X) = _
      rw [sg_X9_count_0, if_neg (by omega), if_neg (by omega), if_pos rfl, ck_t (by omega), hc.2.1 2 (by omega) (by omega)]
  by_cases h3 : x = 3
  · subst h3
    refine QQ_s (v := D 9 3) hR (fun X => ?_) (fun X => ?_)
    · show cm_x 106 0 [some (.inr (.inr 0)), some (.inl (3))] [] (cm_hp D X) = _
      rw [sg_X8_count_0, if_neg (by omega), if_neg (by omega), if_neg (by omega), if_pos rfl]
    · show cm_x 219 0 [some (.inr (.inr 613)), some (.inl (3))] [] (cm_hp D X) = _
      rw [sg_X9_count_0, if_neg (by omega), if_neg (by omega), if_neg (by omega), if_pos rfl, ck_t (by omega), hc.2.1 3 (by omega) (by omega)]
  by_cases h4 : x = 4
  · subst h4
    refine QQ_s (v := D 15 9) hR (fun X => ?_) (fun X => ?_)
    · show cm_x 106 0 [some (.inr (.inr 0)), some (.inl (4))] [] (cm_hp D X) = _
      rw [sg_X8_count_0, if_neg (by omega), if_neg (by omega), if_neg (by omega), if_neg (by omega), if_pos rfl]
    · show cm_x 219 0 [some (.inr (.inr 613)), some (.inl (4))] [] (cm_hp D X) = _
      rw [sg_X9_count_0, if_neg (by omega), if_neg (by omega), if_neg (by omega), if_neg (by omega), if_pos rfl, hr.2.2.2.2.2.2.1]
  by_cases h5 : x = 5
  · subst h5
    refine QQ_s (v := smw (cHas D) 12) hR (fun X => ?_) (fun X => ?_)
    · show cm_x 106 0 [some (.inr (.inr 0)), some (.inl (5))] [] (cm_hp D X) = _
      rw [sg_X8_count_0, if_neg (by omega), if_neg (by omega), if_neg (by omega), if_neg (by omega), if_neg (by omega), if_pos rfl, ev_files, aft_v, sg_X8_count_147]
    · show cm_x 219 0 [some (.inr (.inr 613)), some (.inl (5))] [] (cm_hp D X) = _
      rw [sg_X9_count_0, if_neg (by omega), if_neg (by omega), if_neg (by omega), if_neg (by omega), if_neg (by omega), if_pos rfl, ev_mFiles, aft_v, sg_X9_count_124]
      show (some (.inl (some (.inl (smw (mHas (D 617)) 12))), cm_hp (cm_up D 613 0 0) X) : cm_R) = _
      rw [eq_files hr hn]
  by_cases h6 : x = 6
  · subst h6
    refine QQ_s (v := smw (cCh D) 12) hR (fun X => ?_) (fun X => ?_)
    · show cm_x 106 0 [some (.inr (.inr 0)), some (.inl (6))] [] (cm_hp D X) = _
      rw [sg_X8_count_0, if_neg (by omega), if_neg (by omega), if_neg (by omega), if_neg (by omega), if_neg (by omega), if_neg (by omega), if_pos rfl, ev_changed, aft_v, sg_X8_count_155]
    · show cm_x 219 0 [some (.inr (.inr 613)), some (.inl (6))] [] (cm_hp D X) = _
      rw [sg_X9_count_0, if_neg (by omega), if_neg (by omega), if_neg (by omega), if_neg (by omega), if_neg (by omega), if_neg (by omega), if_pos rfl, ev_mChanged, aft_v, sg_X9_count_129]
      show (some (.inl (some (.inl (smw (mCh (D 617)) 12))), cm_hp (cm_up D 613 0 0) X) : cm_R) = _
      rw [eq_changed hr hn]
  by_cases h7 : x = 7
  · subst h7
    refine QQ_s (v := D 617 241) hR (fun X => ?_) (fun X => ?_)
    · show cm_x 106 0 [some (.inr (.inr 0)), some (.inl (7))] [] (cm_hp D X) = _
      have h2 : D 15 6 = 0 ∨ D 15 6 = 1 := hn.1
      have h3 : D 617 241 = D 15 6 := hr.2.2.2.1
      rw [sg_X8_count_0, if_neg (by omega), if_neg (by omega), if_neg (by omega), if_neg (by omega), if_neg (by omega), if_neg (by omega), if_neg (by omega), if_pos rfl, h3]
      rcases h2 with h2 | h2
      · rw [if_pos h2, h2]
      · rw [if_neg (by omega), h2]
    · show cm_x 219 0 [some (.inr (.inr 613)), some (.inl (7))] [] (cm_hp D X) = _
      rw [sg_X9_count_0, if_neg (by omega), if_neg (by omega), if_neg (by omega), if_neg (by omega), if_neg (by omega), if_neg (by omega), if_neg (by omega), if_pos rfl]
  by_cases h8 : x = 8
  · subst h8
    refine QQ_s (v := smw (cNs D) 12) hR (fun X => ?_) (fun X => ?_)
    · show cm_x 106 0 [some (.inr (.inr 0)), some (.inl (8))] [] (cm_hp D X) = _
      rw [sg_X8_count_0, if_neg (by omega), if_neg (by omega), if_neg (by omega), if_neg (by omega), if_neg (by omega), if_neg (by omega), if_neg (by omega), if_neg (by omega), if_pos rfl, ev_newCount hlo, aft_v, sg_X8_count_179]
    · show cm_x 219 0 [some (.inr (.inr 613)), some (.inl (8))] [] (cm_hp D X) = _
      rw [sg_X9_count_0, if_neg (by omega), if_neg (by omega), if_neg (by omega), if_neg (by omega), if_neg (by omega), if_neg (by omega), if_neg (by omega), if_neg (by omega), if_pos rfl, ev_mNewAll hmo, aft_v, sg_X9_count_143]
      show (some (.inl (some (.inl (smw (mNq (D 617)) 12))), cm_hp (cm_up D 613 0 0) X) : cm_R) = _
      rw [eq_nq hr hn]
  by_cases h9 : x = 9
  · subst h9
    refine QQ_s (v := D 15 7) hR (fun X => ?_) (fun X => ?_)
    · show cm_x 106 0 [some (.inr (.inr 0)), some (.inl (9))] [] (cm_hp D X) = _
      rw [sg_X8_count_0, if_neg (by omega), if_neg (by omega), if_neg (by omega), if_neg (by omega), if_neg (by omega), if_neg (by omega), if_neg (by omega), if_neg (by omega), if_neg (by omega), if_pos rfl]
    · show cm_x 219 0 [some (.inr (.inr 613)), some (.inl (9))] [] (cm_hp D X) = _
      rw [sg_X9_count_0, if_neg (by omega), if_neg (by omega), if_neg (by omega), if_neg (by omega), if_neg (by omega), if_neg (by omega), if_neg (by omega), if_neg (by omega), if_neg (by omega), if_pos rfl, hr.2.2.2.2.1]
  by_cases h10 : x = 10
  · subst h10
    refine QQ_s (v := D 15 8) hR (fun X => ?_) (fun X => ?_)
    · show cm_x 106 0 [some (.inr (.inr 0)), some (.inl (10))] [] (cm_hp D X) = _
      rw [sg_X8_count_0, if_neg (by omega), if_neg (by omega), if_neg (by omega), if_neg (by omega), if_neg (by omega), if_neg (by omega), if_neg (by omega), if_neg (by omega), if_neg (by omega), if_neg (by omega), if_pos rfl]
    · show cm_x 219 0 [some (.inr (.inr 613)), some (.inl (10))] [] (cm_hp D X) = _
      rw [sg_X9_count_0, if_neg (by omega), if_neg (by omega), if_neg (by omega), if_neg (by omega), if_neg (by omega), if_neg (by omega), if_neg (by omega), if_neg (by omega), if_neg (by omega), if_neg (by omega), if_pos rfl, hr.2.2.2.2.2.1]
  by_cases h11 : x = 11
  · subst h11
    refine QQ_s (v := smw (fun b => tv (goodM (D 619) (D 9 1) b)) (D 15 9).toNat) hR (fun X => ?_) (fun X => ?_)
    · show cm_x 106 0 [some (.inr (.inr 0)), some (.inl (11))] [] (cm_hp D X) = _
      rw [sg_X8_count_0, if_neg (by omega), if_neg (by omega), if_neg (by omega), if_neg (by omega), if_neg (by omega), if_neg (by omega), if_neg (by omega), if_neg (by omega), if_neg (by omega), if_neg (by omega), if_neg (by omega), if_pos rfl, ev_goodMaps hd, aft_v, sg_X8_count_210]
    · show cm_x 219 0 [some (.inr (.inr 613)), some (.inl (11))] [] (cm_hp D X) = _
      rw [sg_X9_count_0, if_neg (by omega), if_neg (by omega), if_neg (by omega), if_neg (by omega), if_neg (by omega), if_neg (by omega), if_neg (by omega), if_neg (by omega), if_neg (by omega), if_neg (by omega), if_neg (by omega), if_pos rfl, ev_mGoodMaps hmd, aft_v, sg_X9_count_166]
      show (some (.inl (some (.inl (smw (fun b => tv (goodM (D 619) (D 614 1) b)) (D 15 9).toNat))), cm_hp (cm_up D 613 0 0) X) : cm_R) = _
      rw [epk]
  by_cases h12 : x = 12
  · subst h12
    refine QQ_s (v := chL (D 620) 400 (D 15 7)) hR (fun X => ?_) (fun X => ?_)
    · show cm_x 106 0 [some (.inr (.inr 0)), some (.inl (12))] [] (cm_hp D X) = _
      rw [sg_X8_count_0, if_neg (by omega), if_neg (by omega), if_neg (by omega), if_neg (by omega), if_neg (by omega), if_neg (by omega), if_neg (by omega), if_neg (by omega), if_neg (by omega), if_neg (by omega), if_neg (by omega), if_neg (by omega), if_pos rfl, ev_mapsAlong hd hmp, aft_v, sg_X8_count_225]
    · show cm_x 219 0 [some (.inr (.inr 613)), some (.inl (12))] [] (cm_hp D X) = _
      rw [sg_X9_count_0, if_neg (by omega), if_neg (by omega), if_neg (by omega), if_neg (by omega), if_neg (by omega), if_neg (by omega), if_neg (by omega), if_neg (by omega), if_neg (by omega), if_neg (by omega), if_neg (by omega), if_neg (by omega), if_pos rfl, ev_mChain hmd hmq, aft_v, sg_X9_count_171]
      show (some (.inl (some (.inl (chL (D 620) 400 (D 617 242)))), cm_hp (cm_up D 613 0 0) X) : cm_R) = _
      rw [e242]
  by_cases h13 : x = 13
  · subst h13
    obtain ⟨D', c1, ⟨q, g, rfl⟩, l2⟩ := ev_deadBlocks (X := X) hd hmp hR.2.2.2.2 (by omega)
    have hR' : R (mk14 D q g) (t + 1) := R_eq eqR_14 l2 hR
    refine ⟨some (smw (fun b => tv (deadP (D 619) (D 620) (D 15 7) b)) (D 15 9).toNat), mk14 D q g, ?_, fun Y => ?_⟩
    · show cm_x 106 0 [some (.inr (.inr 0)), some (.inl (13))] [] (cm_hp D X) = _
      rw [sg_X8_count_0, if_neg (by omega), if_neg (by omega), if_neg (by omega), if_neg (by omega), if_neg (by omega), if_neg (by omega), if_neg (by omega), if_neg (by omega), if_neg (by omega), if_neg (by omega), if_neg (by omega), if_neg (by omega), if_neg (by omega), if_pos rfl, c1, aft_v, sg_X8_count_247]
      rfl
    · have hmd' : mdOk (cm_up (mk14 D q g) 613 0 0) (D 15 9) := hmd
      obtain ⟨g2, m1⟩ := ev_mDead (X := Y) hmd' hmq
      refine ⟨ua25 (cm_up (mk14 D q g) 613 0 0) g2, ?_, rfl, R_eq (E := ua25 (cm_up (mk14 D q g) 613 0 0) g2) (eqR_tr (eqR_6 (by omega)) (eqR_ua (by unfold cRow; omega) (by omega) (by omega))) (lk_mono hR'.2.2.2.2 (by omega)) hR', rfl⟩
      show cm_x 219 0 [some (.inr (.inr 613)), some (.inl 13)] [] (cm_hp (mk14 D q g) Y) = _
      rw [sg_X9_count_0, if_neg (by omega), if_neg (by omega), if_neg (by omega), if_neg (by omega), if_neg (by omega), if_neg (by omega), if_neg (by omega), if_neg (by omega), if_neg (by omega), if_neg (by omega), if_neg (by omega), if_neg (by omega), if_neg (by omega), if_pos rfl, m1, aft_v, sg_X9_count_176]
      show (some (.inl (some (.inl (smw (fun b => tv (deadP (D 619) (D 620) (D 617 242) b)) (D 15 9).toNat))), _) : cm_R) = _
      rw [e242]
      rfl
  by_cases h14 : x = 14
  · subst h14
    refine QQ_s (v := cm_wr (smw (fun b => tv (goodM (D 619) (D 9 1) b)) (D 15 9).toNat - chL (D 620) 400 (D 15 7))) hR (fun X => ?_) (fun X => ?_)
    · show cm_x 106 0 [some (.inr (.inr 0)), some (.inl (14))] [] (cm_hp D X) = _
      rw [sg_X8_count_0, if_neg (by omega), if_neg (by omega), if_neg (by omega), if_neg (by omega), if_neg (by omega), if_neg (by omega), if_neg (by omega), if_neg (by omega), if_neg (by omega), if_neg (by omega), if_neg (by omega), if_neg (by omega), if_neg (by omega), if_neg (by omega), if_pos rfl, ev_goodMaps hd, aft_v, sg_X8_count_262, ev_mapsAlong hd hmp, aft_v, sg_X8_count_276]
    · show cm_x 219 0 [some (.inr (.inr 613)), some (.inl (14))] [] (cm_hp D X) = _
      rw [sg_X9_count_0, if_neg (by omega), if_neg (by omega), if_neg (by omega), if_neg (by omega), if_neg (by omega), if_neg (by omega), if_neg (by omega), if_neg (by omega), if_neg (by omega), if_neg (by omega), if_neg (by omega), if_neg (by omega), if_neg (by omega), if_neg (by omega), if_pos rfl, ev_mGoodMaps hmd, aft_v, sg_X9_count_181, ev_mChain hmd hmq, aft_v, sg_X9_count_185]
      show (some (.inl (some (.inl (cm_wr (smw (fun b => tv (goodM (D 619) (D 614 1) b)) (D 15 9).toNat - chL (D 620) 400 (D 617 242))))), cm_hp (cm_up D 613 0 0) X) : cm_R) = _
      rw [epk, e242]
  by_cases h15 : x = 15
  · subst h15
    refine QQ_s (v := D 15 10) hR (fun X => ?_) (fun X => ?_)
    · show cm_x 106 0 [some (.inr (.inr 0)), some (.inl (15))] [] (cm_hp D X) = _
      rw [sg_X8_count_0, if_neg (by omega), if_neg (by omega), if_neg (by omega), if_neg (by omega), if_neg (by omega), if_neg (by omega), if_neg (by omega), if_neg (by omega), if_neg (by omega), if_neg (by omega), if_neg (by omega), if_neg (by omega), if_neg (by omega), if_neg (by omega), if_neg (by omega), if_pos rfl]
    · show cm_x 219 0 [some (.inr (.inr 613)), some (.inl (15))] [] (cm_hp D X) = _
      rw [sg_X9_count_0, if_neg (by omega), if_neg (by omega), if_neg (by omega), if_neg (by omega), if_neg (by omega), if_neg (by omega), if_neg (by omega), if_neg (by omega), if_neg (by omega), if_neg (by omega), if_neg (by omega), if_neg (by omega), if_neg (by omega), if_neg (by omega), if_neg (by omega), if_pos rfl, hr.2.2.2.2.2.2.2]
  by_cases h16 : x = 16
  · subst h16
    refine QQ_s (v := smw (fun b => tv (D 619 b = 8)) (D 15 9).toNat) hR (fun X => ?_) (fun X => ?_)
    · show cm_x 106 0 [some (.inr (.inr 0)), some (.inl (16))] [] (cm_hp D X) = _
      rw [sg_X8_count_0, if_neg (by omega), if_neg (by omega), if_neg (by omega), if_neg (by omega), if_neg (by omega), if_neg (by omega), if_neg (by omega), if_neg (by omega), if_neg (by omega), if_neg (by omega), if_neg (by omega), if_neg (by omega), if_neg (by omega), if_neg (by omega), if_neg (by omega), if_neg (by omega), if_pos rfl, ev_badBlocks hd, aft_v, sg_X8_count_300]
    · show cm_x 219 0 [some (.inr (.inr 613)), some (.inl (16))] [] (cm_hp D X) = _
      rw [sg_X9_count_0, if_neg (by omega), if_neg (by omega), if_neg (by omega), if_neg (by omega), if_neg (by omega), if_neg (by omega), if_neg (by omega), if_neg (by omega), if_neg (by omega), if_neg (by omega), if_neg (by omega), if_neg (by omega), if_neg (by omega), if_neg (by omega), if_neg (by omega), if_neg (by omega), if_pos rfl, ev_mBad hmd, aft_v, sg_X9_count_200]
      rfl
  by_cases h17 : x = 17
  · subst h17
    refine QQ_s (v := D 26 2) hR (fun X => ?_) (fun X => ?_)
    · show cm_x 106 0 [some (.inr (.inr 0)), some (.inl (17))] [] (cm_hp D X) = _
      rw [sg_X8_count_0, if_neg (by omega), if_neg (by omega), if_neg (by omega), if_neg (by omega), if_neg (by omega), if_neg (by omega), if_neg (by omega), if_neg (by omega), if_neg (by omega), if_neg (by omega), if_neg (by omega), if_neg (by omega), if_neg (by omega), if_neg (by omega), if_neg (by omega), if_neg (by omega), if_neg (by omega), if_pos rfl]
    · show cm_x 219 0 [some (.inr (.inr 613)), some (.inl (17))] [] (cm_hp D X) = _
      rw [sg_X9_count_0, if_neg (by omega), if_neg (by omega), if_neg (by omega), if_neg (by omega), if_neg (by omega), if_neg (by omega), if_neg (by omega), if_neg (by omega), if_neg (by omega), if_neg (by omega), if_neg (by omega), if_neg (by omega), if_neg (by omega), if_neg (by omega), if_neg (by omega), if_neg (by omega), if_neg (by omega), if_pos rfl, hR.2.1.2]
  by_cases h18 : x = 18
  · subst h18
    refine QQ_s (v := D 0 1) hR (fun X => ?_) (fun X => ?_)
    · show cm_x 106 0 [some (.inr (.inr 0)), some (.inl (18))] [] (cm_hp D X) = _
      rw [sg_X8_count_0, if_neg (by omega), if_neg (by omega), if_neg (by omega), if_neg (by omega), if_neg (by omega), if_neg (by omega), if_neg (by omega), if_neg (by omega), if_neg (by omega), if_neg (by omega), if_neg (by omega), if_neg (by omega), if_neg (by omega), if_neg (by omega), if_neg (by omega), if_neg (by omega), if_neg (by omega), if_neg (by omega), if_pos rfl]
    · show cm_x 219 0 [some (.inr (.inr 613)), some (.inl (18))] [] (cm_hp D X) = _
      rw [sg_X9_count_0, if_neg (by omega), if_neg (by omega), if_neg (by omega), if_neg (by omega), if_neg (by omega), if_neg (by omega), if_neg (by omega), if_neg (by omega), if_neg (by omega), if_neg (by omega), if_neg (by omega), if_neg (by omega), if_neg (by omega), if_neg (by omega), if_neg (by omega), if_neg (by omega), if_neg (by omega), if_neg (by omega), if_pos rfl, hR.2.2.2.1.1]
  by_cases h19 : x = 19
  · subst h19
    refine QQ_s (v := D 0 8) hR (fun X => ?_) (fun X => ?_)
    · show cm_x 106 0 [some (.inr (.inr 0)), some (.inl (19))] [] (cm_hp D X) = _
      rw [sg_X8_count_0, if_neg (by omega), if_neg (by omega), if_neg (by omega), if_neg (by omega), if_neg (by omega), if_neg (by omega), if_neg (by omega), if_neg (by omega), if_neg (by omega), if_neg (by omega), if_neg (by omega), if_neg (by omega), if_neg (by omega), if_neg (by omega), if_neg (by omega), if_neg (by omega), if_neg (by omega), if_neg (by omega), if_neg (by omega), if_pos rfl]
    · show cm_x 219 0 [some (.inr (.inr 613)), some (.inl (19))] [] (cm_hp D X) = _
      have e9 : cm_wr ((19 : Int) - 19) = 0 := by decide
      rw [sg_X9_count_0, if_neg (by omega), if_neg (by omega), if_neg (by omega), if_neg (by omega), if_neg (by omega), if_neg (by omega), if_neg (by omega), if_neg (by omega), if_neg (by omega), if_neg (by omega), if_neg (by omega), if_neg (by omega), if_neg (by omega), if_neg (by omega), if_neg (by omega), if_neg (by omega), if_neg (by omega), if_neg (by omega), if_neg (by omega), if_pos rfl, e9, ck_t (by omega), hR.2.2.2.1.2.2.2.2.1]
  by_cases h20 : x = 20
  · subst h20
    refine QQ_s (v := D 0 9) hR (fun X => ?_) (fun X => ?_)
    · show cm_x 106 0 [some (.inr (.inr 0)), some (.inl (20))] [] (cm_hp D X) = _
      rw [sg_X8_count_0, if_neg (by omega), if_neg (by omega), if_neg (by omega), if_neg (by omega), if_neg (by omega), if_neg (by omega), if_neg (by omega), if_neg (by omega), if_neg (by omega), if_neg (by omega), if_neg (by omega), if_neg (by omega), if_neg (by omega), if_neg (by omega), if_neg (by omega), if_neg (by omega), if_neg (by omega), if_neg (by omega), if_neg (by omega), if_neg (by omega), if_pos rfl]
    · show cm_x 219 0 [some (.inr (.inr 613)), some (.inl (20))] [] (cm_hp D X) = _
      have e9 : cm_wr ((20 : Int) - 19) = 1 := by decide
      rw [sg_X9_count_0, if_neg (by omega), if_neg (by omega), if_neg (by omega), if_neg (by omega), if_neg (by omega), if_neg (by omega), if_neg (by omega), if_neg (by omega), if_neg (by omega), if_neg (by omega), if_neg (by omega), if_neg (by omega), if_neg (by omega), if_neg (by omega), if_neg (by omega), if_neg (by omega), if_neg (by omega), if_neg (by omega), if_neg (by omega), if_neg (by omega), if_pos rfl, e9, ck_t (by omega), hR.2.2.2.1.2.2.2.2.2]
  · refine QQ_n hR (fun X => ?_) (fun X => ?_)
    · show cm_x 106 0 [some (.inr (.inr 0)), some (.inl (x))] [] (cm_hp D X) = _
      rw [sg_X8_count_0, if_neg h0, if_neg h1, if_neg h2, if_neg h3, if_neg h4, if_neg h5, if_neg h6, if_neg h7, if_neg h8, if_neg h9, if_neg h10, if_neg h11, if_neg h12, if_neg h13, if_neg h14, if_neg h15, if_neg h16, if_neg h17, if_neg h18, if_neg h19, if_neg h20]
    · show cm_x 219 0 [some (.inr (.inr 613)), some (.inl (x))] [] (cm_hp D X) = _
      rw [sg_X9_count_0, if_neg h0, if_neg h1, if_neg h2, if_neg h3, if_neg h4, if_neg h5, if_neg h6, if_neg h7, if_neg h8, if_neg h9, if_neg h10, if_neg h11, if_neg h12, if_neg h13, if_neg h14, if_neg h15, if_neg h16, if_neg h17, if_neg h18, if_neg h19, if_neg h20, sg_X9_fail_0, aft_v, sg_X9_count_226]
