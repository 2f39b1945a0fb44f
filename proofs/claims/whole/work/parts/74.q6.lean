/-! storms; apart; versions -/
variable {D E : Nat → Int → Int} {t h pk : Int} {K B : Int → Int}
def qL (e : Nat) (o : Option Int64) (D : Nat → Int → Int) (X : cm_X) : cm_R := match o with
  | some v => some (.inl (some (.inr (.inl v))), cm_hp D X)
  | none => some (.inr e, cm_hp D (cm_xx X))
theorem qL_s (e : Nat) (v : Int64) (D : Nat → Int → Int) (X : cm_X) : qL e (some v) D X = some (.inl (some (.inr (.inl v))), cm_hp D X) := rfl
theorem qL_n (e : Nat) (D : Nat → Int → Int) (X : cm_X) : qL e none D X = some (.inr e, cm_hp D (cm_xx X)) := rfl
theorem gd_s (v w : Int64) : (some v).getD w = v := rfl
/-- storms: a long -/
def QL (t : Int) (D : Nat → Int → Int) (X : cm_X) (cl md : cm_H → cm_R) (e : Nat) : Prop := ∃ (o : Option Int64) (D' : Nat → Int → Int), cl (cm_hp D X) = qL e o D' X ∧ ∀ Y, ∃ E : Nat → Int → Int, md (cm_hp D' Y) = some (.inl (some (.inr (.inl (o.getD 0)))), cm_hp E Y) ∧ E 613 0 = (match o with | some _ => 0 | none => 1) ∧ R E (t + 400) ∧ E 100000 = D 100000
theorem aft_l (y p0 p : Nat) (L : cm_L) (st : List cm_V) (v : Int64) (h : cm_H) : cm_aft y p0 p L st (some (.inl (some (.inr (.inl v))), h)) = cm_x y p L (.inr (.inl v) :: st) h := rfl
def pw (a : Int64) : Nat → Int64
  | 0 => Int64.ofNat 1
  | k + 1 => pw a k * a
theorem pw_s (a : Int64) (k : Nat) : pw a (k + 1) = pw a k * a := rfl
theorem ev_pow {X : cm_X} {a n : Int} (n0 : 0 ≤ n) (n1 : n < 1000) : cm_x 154 0 [some (.inl (a)), some (.inl (n)), none, none, none] [] (cm_hp D X) = some (.inl (some (.inr (.inl (pw (Int64.ofInt a) n.toNat)))), cm_hp D X) := by
  rw [sg_X8_power_0]
  have L := lp_fn (n := n.toNat) (X := fun k (s : Int64) => cm_x 154 5 [some (.inl (a)), some (.inl (n)), some (.inr (.inl (s))), none, some (.inl (k))] [] (cm_hp D X)) (F := fun k => pw (Int64.ofInt a) k) (fun k hk => by
    show cm_x 154 5 [some (.inl (a)), some (.inl (n)), some (.inr (.inl (pw (Int64.ofInt a) k))), none, some (.inl ((k : Int)))] [] (cm_hp D X) = cm_x 154 5 [some (.inl (a)), some (.inl (n)), some (.inr (.inl (pw (Int64.ofInt a) (k + 1)))), none, some (.inl ((k : Int) + 1))] [] (cm_hp D X)
    rw [sg_X8_power_5, if_pos (by omega), cm_wr_id (by omega) (by omega), pw_s])
  refine Eq.trans L ?_
  show cm_x 154 5 [some (.inl (a)), some (.inl (n)), some (.inr (.inl (pw (Int64.ofInt a) n.toNat))), none, some (.inl ((n.toNat : Int)))] [] (cm_hp D X) = _
  rw [sg_X8_power_5, if_neg (by omega)]
theorem ev_mPow {X : cm_X} {a n : Int} (n0 : 0 ≤ n) (n1 : n < 1000) : cm_x 269 0 [some (.inl (a)), some (.inl (n)), none, none, none] [] (cm_hp D X) = some (.inl (some (.inr (.inl (pw (Int64.ofInt a) n.toNat)))), cm_hp D X) := by
  rw [sg_X9_powerOf_0]
  have L := lp_fn (n := n.toNat) (X := fun k (s : Int64) => cm_x 269 5 [some (.inl (a)), some (.inl (n)), some (.inr (.inl (s))), none, some (.inl (k))] [] (cm_hp D X)) (F := fun k => pw (Int64.ofInt a) k) (fun k hk => by
    show cm_x 269 5 [some (.inl (a)), some (.inl (n)), some (.inr (.inl (pw (Int64.ofInt a) k))), none, some (.inl ((k : Int)))] [] (cm_hp D X) = cm_x 269 5 [some (.inl (a)), some (.inl (n)), some (.inr (.inl (pw (Int64.ofInt a) (k + 1)))), none, some (.inl ((k : Int) + 1))] [] (cm_hp D X)
    rw [sg_X9_powerOf_5, if_pos (by omega), cm_wr_id (by omega) (by omega), pw_s])
  refine Eq.trans L ?_
  show cm_x 269 5 [some (.inl (a)), some (.inl (n)), some (.inr (.inl (pw (Int64.ofInt a) n.toNat))), none, some (.inl ((n.toNat : Int)))] [] (cm_hp D X) = _
  rw [sg_X9_powerOf_5, if_neg (by omega)]
/-- ways that k are spared -/
def wys (p : Int) : Nat → Int64
  | 0 => Int64.ofNat 1
  | k + 1 => wys p k * Int64.ofInt (cm_wr (p + k)) / Int64.ofInt (cm_wr ((k : Int) + 1))
def stS (p s x : Int) : Nat → Int64
  | 0 => Int64.ofNat 0
  | k + 1 => stS p s x k + wys p k * pw (Int64.ofInt x) k * pw (Int64.ofInt 10) (cm_wr (s - k)).toNat
theorem wys_s (p : Int) (k : Nat) : wys p (k + 1) = wys p k * Int64.ofInt (cm_wr (p + k)) / Int64.ofInt (cm_wr ((k : Int) + 1)) := rfl
theorem stS_s (p s x : Int) (k : Nat) : stS p s x (k + 1) = stS p s x k + wys p k * pw (Int64.ofInt x) k * pw (Int64.ofInt 10) (cm_wr (s - k)).toNat := rfl
theorem ne_64 {k : Int} (k0 : 1 ≤ k) (k1 : k ≤ 6) : Int64.ofInt k ≠ 0 := by
  have hk : k = 1 ∨ k = 2 ∨ k = 3 ∨ k = 4 ∨ k = 5 ∨ k = 6 := by omega
  rcases hk with rfl | rfl | rfl | rfl | rfl | rfl <;> decide +kernel
theorem ev_storms {X : cm_X} {p s x : Int} (p0 : 0 ≤ p) (p1 : p ≤ 15) (s0 : 0 ≤ s) (s1 : s ≤ 5) (x0 : 0 ≤ x) (x1 : x ≤ 10) : cm_x 153 60 [some (.inr (.inr 0)), some (.inl (s)), some (.inl (x)), some (.inl (p)), some (.inr (.inl (Int64.ofNat 1))), none, some (.inr (.inl (Int64.ofNat 0))), none, some (.inl (0))] [] (cm_hp D X) = some (.inl (some (.inr (.inl (stS p s x (s.toNat + 1) * pw (Int64.ofInt (10 - x)) p.toNat)))), cm_hp D X) := by
  have L := lp_fn (n := s.toNat + 1) (X := fun k (q : Int64 × Int64) => cm_x 153 60 [some (.inr (.inr 0)), some (.inl (s)), some (.inl (x)), some (.inl (p)), some (.inr (.inl (q.1))), none, some (.inr (.inl (q.2))), none, some (.inl (k))] [] (cm_hp D X)) (F := fun k => (wys p k, stS p s x k)) (fun k hk => by
    show cm_x 153 60 [some (.inr (.inr 0)), some (.inl (s)), some (.inl (x)), some (.inl (p)), some (.inr (.inl (wys p k))), none, some (.inr (.inl (stS p s x k))), none, some (.inl ((k : Int)))] [] (cm_hp D X) = cm_x 153 60 [some (.inr (.inr 0)), some (.inl (s)), some (.inl (x)), some (.inl (p)), some (.inr (.inl (wys p (k + 1)))), none, some (.inr (.inl (stS p s x (k + 1)))), none, some (.inl ((k : Int) + 1))] [] (cm_hp D X)
    have e : cm_wr ((k : Int) + 1) = (k : Int) + 1 := cm_wr_id (by omega) (by omega)
    have e2 : cm_wr (s - (k : Int)) = s - k := cm_wr_id (by omega) (by omega)
    have ek : ((k : Int)).toNat = k := by omega
    rw [wys_s, stS_s, sg_X8_storms_60, if_neg (by omega), ev_pow (by omega) (by omega), aft_l, sg_X8_storms_76, e2, ev_pow (by omega) (by omega), aft_l, sg_X8_storms_86, e, ck_t (ne_64 (by omega) (by omega)), ek])
  refine Eq.trans L ?_
  show cm_x 153 60 [some (.inr (.inr 0)), some (.inl (s)), some (.inl (x)), some (.inl (p)), some (.inr (.inl (wys p (s.toNat + 1)))), none, some (.inr (.inl (stS p s x (s.toNat + 1)))), none, some (.inl (((s.toNat + 1 : Nat) : Int)))] [] (cm_hp D X) = _
  have e3 : cm_wr (10 - x) = 10 - x := cm_wr_id (by omega) (by omega)
  rw [sg_X8_storms_60, if_pos (by omega), e3, ev_pow (by omega) (by omega), aft_l, sg_X8_storms_122]
def wyM (p : Int) : Nat → Int64
  | 0 => Int64.ofNat 1
  | k + 1 => wys p k
theorem ev_mStorms {X : cm_X} {p s x : Int} (p0 : 0 ≤ p) (p1 : p ≤ 15) (s0 : 0 ≤ s) (s1 : s ≤ 5) (x0 : 0 ≤ x) (x1 : x ≤ 10) : cm_x 270 73 [some (.inr (.inr 613)), some (.inl (s)), some (.inl (x)), some (.inl (p)), some (.inr (.inl (Int64.ofNat 0))), none, some (.inr (.inl (Int64.ofNat 1))), none, some (.inl (0))] [] (cm_hp D X) = some (.inl (some (.inr (.inl (stS p s x (s.toNat + 1) * pw (Int64.ofInt (10 - x)) p.toNat)))), cm_hp D X) := by
  have e3 : cm_wr (10 - x) = 10 - x := cm_wr_id (by omega) (by omega)
  have L := lp_fn (n := s.toNat + 1) (X := fun k (q : Int64 × Int64) => cm_x 270 73 [some (.inr (.inr 613)), some (.inl (s)), some (.inl (x)), some (.inl (p)), some (.inr (.inl (q.1))), none, some (.inr (.inl (q.2))), none, some (.inl (k))] [] (cm_hp D X)) (F := fun k => (stS p s x k * pw (Int64.ofInt (10 - x)) p.toNat, wyM p k)) (fun k hk => by
    show cm_x 270 73 [some (.inr (.inr 613)), some (.inl (s)), some (.inl (x)), some (.inl (p)), some (.inr (.inl (stS p s x k * pw (Int64.ofInt (10 - x)) p.toNat))), none, some (.inr (.inl (wyM p k))), none, some (.inl ((k : Int)))] [] (cm_hp D X) = cm_x 270 73 [some (.inr (.inr 613)), some (.inl (s)), some (.inl (x)), some (.inl (p)), some (.inr (.inl (stS p s x (k + 1) * pw (Int64.ofInt (10 - x)) p.toNat))), none, some (.inr (.inl (wys p k))), none, some (.inl ((k : Int) + 1))] [] (cm_hp D X)
    have e : cm_wr ((k : Int) + 1) = (k : Int) + 1 := cm_wr_id (by omega) (by omega)
    have e2 : cm_wr (s - (k : Int)) = s - k := cm_wr_id (by omega) (by omega)
    have key : ∀ w, w = wys p k → cm_aft 270 107 110 [some (.inr (.inr 613)), some (.inl (s)), some (.inl (x)), some (.inl (p)), some (.inr (.inl (stS p s x k * pw (Int64.ofInt (10 - x)) p.toNat))), none, some (.inr (.inl w)), none, some (.inl ((k : Int)))] [(.inr (.inl w)), (.inr (.inl (stS p s x k * pw (Int64.ofInt (10 - x)) p.toNat)))] (cm_x 269 0 [some (.inl (x)), some (.inl ((k : Int))), none, none, none] [] (cm_hp D X)) = cm_x 270 73 [some (.inr (.inr 613)), some (.inl (s)), some (.inl (x)), some (.inl (p)), some (.inr (.inl (stS p s x (k + 1) * pw (Int64.ofInt (10 - x)) p.toNat))), none, some (.inr (.inl (wys p k))), none, some (.inl ((k : Int) + 1))] [] (cm_hp D X) := by
      rintro w rfl
      rw [ev_mPow (by omega) (by omega), aft_l, sg_X9_storms_110, e3, ev_mPow (by omega) (by omega), aft_l, sg_X9_storms_119, e2, ev_mPow (by omega) (by omega), aft_l, sg_X9_storms_129, e]
      have ek : ((k : Int)).toNat = k := by omega
      have ring : ∀ a b c d : Int64, (a + b * c) * d = a * d + b * d * c := by
        intro a b c d
        rw [Int64.add_mul, Int64.mul_assoc, Int64.mul_comm c d, Int64.mul_assoc]
      rw [stS_s, e2, ek, ring]
    rw [sg_X9_storms_73, if_neg (by omega)]
    cases k with
    | zero =>
      rw [if_neg (by omega)]
      refine key _ ?_
      rfl
    | succ k =>
      have e6 : cm_wr ((k : Int) + 1) = ((k + 1 : Nat) : Int) := by rw [cm_wr_id (by omega) (by omega)]; omega
      have ew : wyM p (k + 1) = wys p k := rfl
      have e7 : wys p k * Int64.ofInt (cm_wr (p + (k : Int))) / Int64.ofInt ((k + 1 : Nat) : Int) = wys p (k + 1) := by rw [wys_s, e6]
      have e8 : Int64.ofInt ((k + 1 : Nat) : Int) ≠ 0 := ne_64 (by omega) (by omega)
      rw [if_pos (by omega), ck_t e8]
      have e5 : cm_wr (cm_wr (p + ((k + 1 : Nat) : Int)) - 1) = cm_wr (p + (k : Int)) := by
        rw [cm_wr_id (by omega : -2147483648 ≤ p + ((k + 1 : Nat) : Int)) (by omega), cm_wr_id (by omega) (by omega), cm_wr_id (by omega) (by omega)]
        omega
      rw [e5, ew, e7]
      exact key _ rfl)
  have e0 : (Int64.ofNat 0) = stS p s x 0 * pw (Int64.ofInt (10 - x)) p.toNat := by
    have e1 : stS p s x 0 = Int64.ofNat 0 := rfl
    have e4 : ∀ w : Int64, Int64.ofNat 0 * w = Int64.ofNat 0 := fun w => Int64.zero_mul
    rw [e1, e4]
  rw [e0]
  refine Eq.trans L ?_
  show cm_x 270 73 [some (.inr (.inr 613)), some (.inl (s)), some (.inl (x)), some (.inl (p)), some (.inr (.inl (stS p s x (s.toNat + 1) * pw (Int64.ofInt (10 - x)) p.toNat))), none, some (.inr (.inl (wyM p (s.toNat + 1)))), none, some (.inl (((s.toNat + 1 : Nat) : Int)))] [] (cm_hp D X) = _
  rw [sg_X9_storms_73, if_pos (by omega)]
theorem z64 : Int64.ofInt 0 = 0 := by decide +kernel
theorem q_storms (hR : R D t) (X : cm_X) (s x : Int) : QL t D X (fun H => cm_x 153 0 [some (.inr (.inr 0)), some (.inl (s)), some (.inl (x)), none, none, none, none, none, none] [] H) (fun H => cm_x 270 0 [some (.inr (.inr 613)), some (.inl (s)), some (.inl (x)), none, none, none, none, none, none] [] H) 1 := by
  have hc := hR.1
  have hr := hc.2.2.2.2.1
  have hn := hc.2.2.2.2.2.1
  have hz := hc.1.1
  have hlo := lo_15 hc
  have hmo : mOk ((cm_up D 613 0 0) 617) := mo_617 hc
  have ea : mAny ((cm_up D 613 0 0) 617) = cAny D := eq_any hr hn
  have eth : mThs ((cm_up D 613 0 0) 617) = cm_wr (cCon D + 1) := eq_things hr hn
  have epk : (cm_up D 613 0 0) 614 1 = D 9 1 := hc.2.1 1 (by omega) (by omega)
  have hcb := cCon_b hlo
  have hpk := hz.2.1
  have hcc := cCnt_b hn
  by_cases hs : 0 ≤ s ∧ s ≤ 5
  · by_cases hx : 0 ≤ x ∧ x ≤ 10
    · have cls : ∀ X, cm_x 153 0 [some (.inr (.inr 0)), some (.inl (s)), some (.inl (x)), none, none, none, none, none, none] [] (cm_hp D X) = cm_x 153 34 [some (.inr (.inr 0)), some (.inl (s)), some (.inl (x)), none, none, none, none, none, none] [.inl (pkB (D 9 1) (cCnt D))] (cm_hp D X) := fun X => by
        rw [sg_X8_storms_0, if_neg (by omega), if_neg (by omega), if_neg (by omega), if_neg (by omega), ev_pkNow hz hlo, aft_v]
      have mdl : ∀ X, cm_x 270 0 [some (.inr (.inr 613)), some (.inl (s)), some (.inl (x)), none, none, none, none, none, none] [] (cm_hp D X) = cm_x 270 49 [some (.inr (.inr 613)), some (.inl (s)), some (.inl (x)), some (.inl (pkB (D 9 1) (cm_wr (cCon D + 1)))), none, none, none, none, none] [.inl (cAny D)] (cm_hp (cm_up D 613 0 0) X) := fun X => by
        rw [sg_X9_storms_0, ev_isIn, if_pos hs, aft_v, sg_X9_storms_11, if_neg (by omega), ev_isIn, if_pos hx, aft_v, sg_X9_storms_21, if_neg (by omega), ev_mThings hmo, aft_v, sg_X9_storms_35, epk, eth, ev_mUp hpk.1, aft_v, sg_X9_storms_44, ev_mAny, ea, aft_v]
      have hb := pkB_eq hpk.1 hpk.2 hcc.1 (by omega)
      by_cases ha : cAny D = 0
      · have h0 := (cCnt_0 hn).1 ha
        have hp0 : pkB (D 9 1) 0 = 0 := by have := pkB_eq hpk.1 hpk.2 (Int.le_refl 0) (by omega); omega
        refine ⟨some (-1), D, ?_, fun Y => ⟨cm_up D 613 0 0, ?_, rfl, R_c0 hR, rfl⟩⟩
        · show cm_x 153 0 [some (.inr (.inr 0)), some (.inl (s)), some (.inl (x)), none, none, none, none, none, none] [] (cm_hp D X) = _
          rw [cls, sg_X8_storms_34, h0, hp0, if_pos rfl, qL_s]
        · show cm_x 270 0 [some (.inr (.inr 613)), some (.inl s), some (.inl x), none, none, none, none, none, none] [] (cm_hp D Y) = _
          rw [mdl, sg_X9_storms_49, if_pos ha, gd_s]
      · have h0 := (cCnt_0 hn).2 ha
        have ew : cm_wr (cCon D + 1) = cCnt D := by rw [h0.1]; exact cm_wr_id (by omega) (by omega)
        rw [ew] at mdl
        have hp1 := hb.2.2.2.1 (by omega)
        have ews : cm_wr (pkB (D 9 1) (cCnt D) + s) = pkB (D 9 1) (cCnt D) + s := cm_wr_id (by omega) (by omega)
        by_cases h15 : 15 < pkB (D 9 1) (cCnt D) + s
        · refine ⟨some (-1), D, ?_, fun Y => ⟨cm_up D 613 0 0, ?_, rfl, R_c0 hR, rfl⟩⟩
          · show cm_x 153 0 [some (.inr (.inr 0)), some (.inl (s)), some (.inl (x)), none, none, none, none, none, none] [] (cm_hp D X) = _
            rw [cls, sg_X8_storms_34, if_neg (by omega), ews, if_pos h15, qL_s]
          · show cm_x 270 0 [some (.inr (.inr 613)), some (.inl s), some (.inl x), none, none, none, none, none, none] [] (cm_hp D Y) = _
            rw [mdl, sg_X9_storms_49, if_neg ha, ews, if_pos h15, gd_s]
        · refine ⟨some (stS (pkB (D 9 1) (cCnt D)) s x (s.toNat + 1) * pw (Int64.ofInt (10 - x)) (pkB (D 9 1) (cCnt D)).toNat), D, ?_, fun Y => ⟨cm_up D 613 0 0, ?_, rfl, R_c0 hR, rfl⟩⟩
          · show cm_x 153 0 [some (.inr (.inr 0)), some (.inl (s)), some (.inl (x)), none, none, none, none, none, none] [] (cm_hp D X) = _
            rw [cls, sg_X8_storms_34, if_neg (by omega), ews, if_neg h15, ev_storms hb.2.1 (by omega) hs.1 hs.2 hx.1 hx.2, qL_s]
          · show cm_x 270 0 [some (.inr (.inr 613)), some (.inl s), some (.inl x), none, none, none, none, none, none] [] (cm_hp D Y) = _
            rw [mdl, sg_X9_storms_49, if_neg ha, ews, if_neg h15, ev_mStorms hb.2.1 (by omega) hs.1 hs.2 hx.1 hx.2, gd_s]
    · refine ⟨none, D, ?_, fun Y => ⟨cm_up (cm_up D 613 0 0) 613 0 1, ?_, rfl, R_c1 hR, rfl⟩⟩
      · show cm_x 153 0 [some (.inr (.inr 0)), some (.inl (s)), some (.inl (x)), none, none, none, none, none, none] [] (cm_hp D X) = _
        rw [sg_X8_storms_0, if_neg (by omega), if_neg (by omega)]
        by_cases h0 : x < 0
        · rw [if_pos h0]; rfl
        · rw [if_neg h0, if_pos (by omega)]; rfl
      · show cm_x 270 0 [some (.inr (.inr 613)), some (.inl s), some (.inl x), none, none, none, none, none, none] [] (cm_hp D Y) = _
        rw [sg_X9_storms_0, ev_isIn, if_pos hs, aft_v, sg_X9_storms_11, if_neg (by omega), ev_isIn, if_neg hx, aft_v, sg_X9_storms_21, if_pos rfl, sg_X9_fail_0, aft_v, sg_X9_storms_29, z64]
        rfl
  · refine ⟨none, D, ?_, fun Y => ⟨cm_up (cm_up D 613 0 0) 613 0 1, ?_, rfl, R_c1 hR, rfl⟩⟩
    · show cm_x 153 0 [some (.inr (.inr 0)), some (.inl (s)), some (.inl (x)), none, none, none, none, none, none] [] (cm_hp D X) = _
      rw [sg_X8_storms_0]
      by_cases h0 : s < 0
      · rw [if_pos h0]; rfl
      · rw [if_neg h0, if_pos (by omega)]; rfl
    · show cm_x 270 0 [some (.inr (.inr 613)), some (.inl s), some (.inl x), none, none, none, none, none, none] [] (cm_hp D Y) = _
      rw [sg_X9_storms_0, ev_isIn, if_neg hs, aft_v, sg_X9_storms_11, if_pos rfl, sg_X9_fail_0, aft_v, sg_X9_storms_29, z64]
      rfl
