/-! set, cut, erase: the calls -/
variable {D E : Nat → Int → Int} {X : cm_X} {K B : Int → Int} {h pk t : Int} {r : Int → Int}
/-- D1 is D with the act kept -/
def KP (D D1 : Nat → Int → Int) : Prop := agS (stt D1 (adr (D 26 1))) (stt D 15) ∧ D1 26 1 = (if D 26 1 + 1 < 40 then D 26 1 + 1 else 0) ∧ D1 26 2 = (if D 26 2 < 40 then D 26 2 + 1 else 40) ∧ ∀ x : Nat, x ≠ 26 → (x < adr (D 26 1) ∨ adr (D 26 1) + 7 ≤ x) → D1 x = D x
theorem KP_o {D1 : Nat → Int → Int} (hR : R D t) (hk : KP D D1) {x : Nat} (hx : x < 26 ∨ x = 27 ∨ 308 ≤ x) : D1 x = D x := by
  have hnx := hR.2.1.1.1
  have hra : 28 ≤ adr (D 26 1) ∧ adr (D 26 1) + 7 ≤ 308 := by unfold adr; omega
  exact hk.2.2.2 x (by omega) (by omega)
theorem kp_run (hR : R D t) (X : cm_X) : ∃ D1, cm_x 2 0 [some (.inr (.inr 26)), some (.inr (.inr 15))] [] (cm_hp D X) = some (.inl none, cm_hp D1 X) ∧ KP D D1 ∧ rS (stt D1 15) (D1 617) ∧ wS (D 9 1) (D 619) (D 620) (stt D1 15) ∧ dOk D1 (D 619) (D 620) (D 15 9) := by
  have hnx := hR.2.1.1.1
  have hcn := hR.2.1.1.2.1
  have hc := hR.1
  obtain ⟨D1, k1, k2, k3, k4, k5⟩ := ev_keep (X := X) hnx.1 hnx.2 hcn.1 hcn.2 (bS_n hc.2.2.2.2.2.1)
  have hk : KP D D1 := ⟨k2, k3, k4, k5⟩
  have ha : agS (stt D1 15) (stt D 15) := agS_of fun j hj => KP_o hR hk (by omega)
  have e9 := KP_o hR hk (x := 9) (by omega)
  refine ⟨D1, k1, hk, ?_, wS_ag ha hc.2.2.2.2.2, dOk_of (by rw [e9]) (by rw [e9]) (by rw [e9]) (by rw [e9]) (KP_o hR hk (by omega)) (KP_o hR hk (by omega)) (KP_o hR hk (by omega)) hc.1⟩
  rw [KP_o hR hk (by omega)]
  exact rS_ag ha hc.2.2.2.2.2.1 hc.2.2.2.2.1
abbrev kE (D2 : Nat → Int → Int) (g : Int → Int) : Nat → Int → Int := cm_up (u26 (cm_up D2 613 0 0) g) 613 29 (if D2 613 29 < 40 then D2 613 29 + 1 else 40)
/-- the model keeps the act: over a heap whose State has changed -/
theorem mk_run {D1 D2 : Nat → Int → Int} (hR : R D t) (hk : KP D D1) (f2 : ∀ x : Nat, (x < 15 ∨ 22 ≤ x) → D2 x = D1 x) (Y : cm_X) : ∃ g, cm_x 238 0 [some (.inr (.inr 613)), none] [] (cm_hp (cm_up D2 613 0 0) Y) = some (.inl none, cm_hp (kE D2 g) Y) ∧ ∀ j, 0 ≤ j → j < 246 * (if D2 613 29 < 40 then D2 613 29 + 1 else 40) → g j = kpP (D2 626) (D2 617) (D2 613 29) j := by
  have e29 : D2 613 29 = D 26 2 := by rw [f2 613 (by omega), KP_o hR hk (by omega)]; exact hR.2.1.2
  have hcn := hR.2.1.1.2.1
  exact ev_mKeep (D := cm_up D2 613 0 0) (X := Y) (by show 0 ≤ D2 613 29; omega) (by show D2 613 29 ≤ 40; omega)
theorem rf_mdl {md : cm_H → cm_R} {y p0 p : Nat} {L : cm_L} : cm_aft y p0 p L [] (cm_x 236 0 [some (.inr (.inr 613))] [] (cm_hp (cm_up (cm_up D 0 9 (cm_wr (D 0 9 + 1))) 613 0 0) X)) = cm_x y p L [.inl (-1)] (cm_hp (rfE D) X) := by
  rw [sg_X9_refuse_0, aft_v]
  rfl
def canS (D : Nat → Int → Int) (n c : Int) : Prop := (0 ≤ n ∧ n < 12) ∧ 0 ≤ c ∧ c ≤ D 17 n ∧ c < 8
theorem ev_canSet (n c : Int) : cm_x 82 0 [some (.inr (.inr 15)), some (.inl (n)), some (.inl (c))] [] (cm_hp D X) = some (.inl (some (.inl (tv (canS D n c)))), cm_hp D X) := by
  rw [sg_X6_canSet_0, ev_isName, aft_v, sg_X6_canSet_4]
  by_cases h1 : 0 ≤ n ∧ n < 12
  · rw [if_pos h1, if_neg (by omega)]
    by_cases h2 : c < 0
    · rw [if_pos h2, tv_f (fun z => by have := z.2.1; omega)]
    · rw [if_neg h2, ck_t h1]
      by_cases h3 : D 17 n < c
      · rw [if_pos h3, tv_f (fun z => by have := z.2.2.1; omega)]
      · rw [if_neg h3]
        by_cases h4 : c < 8
        · rw [if_pos h4, tv_t ⟨h1, by omega, by omega, h4⟩]
        · rw [if_neg h4, tv_f (fun z => h4 z.2.2.2)]
  · rw [if_neg h1, if_pos rfl, tv_f (fun z => h1 z.1)]
theorem ev_mCanSet (hr : rS (stt D 15) (E 617)) (hn : nS (stt D 15)) (n c v : Int) : cm_x 240 0 [some (.inr (.inr 613)), some (.inl (n)), some (.inl (c)), some (.inl (v))] [] (cm_hp E X) = some (.inl (some (.inl (tv (canS D n c ∧ 0 ≤ v ∧ v ≤ 999)))), cm_hp E X) := by
  rw [sg_X9_canSet_0, ev_mName, aft_v, sg_X9_canSet_5]
  by_cases h1 : 0 ≤ n ∧ n < 12
  · obtain ⟨r1, r2, -⟩ := hr.1 n h1.1 h1.2
    have r1 : E 617 n = (if D 16 n = 0 then -1 else D 16 n) := r1
    have r2 : E 617 (12 + n) = D 17 n := r2
    obtain ⟨s1, -, -, s4⟩ := hn.2.1 n h1.1 h1.2
    have s1 : 0 ≤ D 16 n ∧ D 16 n ≤ 12 := s1
    have s4 : D 16 n = 0 → D 17 n = 0 := fun z => (s4 z).1
    have w0 : cm_wr (0 + n) = n := by rw [Int.zero_add]; exact cm_wr_id (by omega) (by omega)
    have w12 : cm_wr (12 + n) = 12 + n := cm_wr_id (by omega) (by omega)
    rw [if_pos h1, if_neg (by omega), ev_isIn, aft_v, sg_X9_canSet_15]
    by_cases h2 : 0 ≤ c ∧ c ≤ 7
    · rw [if_pos h2, if_neg (by omega), ev_isIn, aft_v, sg_X9_canSet_26]
      by_cases h3 : 0 ≤ v ∧ v ≤ 999
      · rw [if_pos h3, if_neg (by omega), w0, ck_t (by omega), w12]
        by_cases hz : D 16 n = 0
        · rw [if_pos hz] at r1
          have := s4 hz
          rw [if_pos r1]
          by_cases hc : c = 0
          · rw [if_pos hc, tv_t ⟨⟨h1, by omega, by omega, by omega⟩, h3⟩]
          · rw [if_neg hc, tv_f (fun z => by have := z.1.2.2.1; omega)]
        · rw [if_neg hz] at r1
          rw [if_neg (by omega), ck_t (by omega), r2]
          by_cases hc : D 17 n < c
          · rw [if_pos hc, tv_f (fun z => by have := z.1.2.2.1; omega)]
          · rw [if_neg hc, tv_t ⟨⟨h1, by omega, by omega, by omega⟩, h3⟩]
      · rw [if_neg h3, if_pos rfl, tv_f (fun z => h3 z.2)]
    · rw [if_neg h2, if_pos rfl, tv_f (fun z => by have := z.1.2; omega)]
  · rw [if_neg h1, if_pos rfl, tv_f (fun z => h1 z.1.1)]
/-- a cell is set, in mind: both -/
theorem set_B (hr : rS (stt D 15) (D 617)) (hw : wS pk K B (stt D 15)) {n c : Int} (v : Int) (hc : canS D n c) : rS (stt (setD (begD D n) n c v) 15) (setM (begM (D 617) n (frV D)) n c v) ∧ wS pk K B (stt (setD (begD D n) n c v) 15) := by
  obtain ⟨⟨n0, n1⟩, c0, c2, c1⟩ := hc
  have r1 : D 617 n = (if D 16 n = 0 then -1 else D 16 n) := (hr.1 n n0 n1).1
  have s1 : 0 ≤ D 16 n ∧ D 16 n ≤ 12 := (hw.1.2.1 n n0 n1).1
  unfold begD begM
  by_cases hz : D 16 n = 0
  · rw [if_pos hz] at r1
    rw [if_pos hz, if_pos r1]
    obtain ⟨b1, b2⟩ := bf_R hr hw n0 n1 hz
    have hf := (frV_f n0 n1 hz).1
    refine set_R b1 v b2 n0 n1 c0 c1 ?_ c2
    show cm_u1 (D 16) n (frV D) n ≠ 0
    rw [u1_eq]; omega
  · rw [if_neg hz] at r1
    rw [if_neg hz, if_neg (by omega)]
    exact set_R hr v (wS_x hw n) n0 n1 c0 c1 hz c2
theorem setD_o {n c v : Int} {x : Nat} (hx : x < 15 ∨ 22 ≤ x) : setD (begD D n) n c v x = D x := by
  unfold setD
  rw [up_row (by omega), up_row (by omega), up_row (by omega), up_row (by omega)]
  unfold begD
  by_cases hz : D 16 n = 0
  · rw [if_pos hz]
    unfold bfD
    rw [up_row (by omega), up_row (by omega), up_row (by omega)]
  · rw [if_neg hz]
theorem setD_h {n c v : Int} : setD (begD D n) n c v 15 9 = D 15 9 := by
  show (begD D n) 15 9 = _
  unfold begD
  by_cases hz : D 16 n = 0
  · rw [if_pos hz]; rfl
  · rw [if_neg hz]
theorem q_set (hR : R D t) (X : cm_X) (n c v : Int) : MM t D X (fun H => cm_x 123 0 [some (.inr (.inr 0)), some (.inl (n)), some (.inl (c)), some (.inl (v))] [] H) (fun H => cm_x 243 0 [some (.inr (.inr 613)), some (.inl (n)), some (.inl (c)), some (.inl (v))] [] H) := by
  have hc := hR.1
  have hr := hc.2.2.2.2.1
  have hn := hc.2.2.2.2.2.1
  by_cases hv : 0 ≤ v ∧ v ≤ 999
  · by_cases hs : canS D n c
    · obtain ⟨D1, k1, hk, hr1, hw1, hd1⟩ := kp_run hR X
      have e17 := KP_o hR hk (x := 17) (by omega)
      have hs1 : canS D1 n c := by unfold canS; rw [e17]; exact hs
      have hn1 := hw1.1
      obtain ⟨b1, b2⟩ := set_B hr1 hw1 v hs1
      have f2 : ∀ x : Nat, (x < 15 ∨ 22 ≤ x) → setD (begD D1 n) n c v x = D1 x := fun x hx => setD_o hx
      have r12 : setM (begM (D1 617) n (frV D1)) n c v (12 + n) = setD (begD D1 n) n c v 17 n := (b1.1 n hs.1.1 hs.1.2).2.1
      refine ⟨setD (begD D1 n) n c v 17 n, setD (begD D1 n) n c v, ?_, fun Y => ?_⟩
      · show cm_x 123 0 [some (.inr (.inr 0)), some (.inl (n)), some (.inl (c)), some (.inl (v))] [] (cm_hp D X) = _
        rw [sg_X8_set_0, if_neg (by omega), if_neg (by omega), ev_canSet, aft_v, sg_X8_set_20, tv_t hs, if_neg (by omega), k1, aft_n, sg_X8_set_39, ev_setCell hs.1.1 hs.1.2 hs.2.1 hs.2.2.2, aft_n, sg_X8_set_49, ck_t hs.1]
      · obtain ⟨g, m1, m2⟩ := mk_run hR hk f2 Y
        have h617 : setD (begD D1 n) n c v 617 = D1 617 := f2 617 (by omega)
        have hw617 : (kE (setD (begD D1 n) n c v) g) 617 = D1 617 := h617
        have hrE : rS (stt D1 15) ((cm_up (setD (begD D1 n) n c v) 613 0 0) 617) := by
          show rS (stt D1 15) (setD (begD D1 n) n c v 617)
          rw [h617]; exact hr1
        refine ⟨cm_ua (kE (setD (begD D1 n) n c v) g) 617 (setM (begM (D1 617) n (frV D1)) n c v), ?_, act_fin hR hk.1 hk.2.1 hk.2.2.1 hk.2.2.2 f2 m2 b1 b2 ?_⟩
        · show cm_x 243 0 [some (.inr (.inr 613)), some (.inl n), some (.inl c), some (.inl v)] [] (cm_hp (setD (begD D1 n) n c v) Y) = _
          rw [sg_X9_set_0, ev_mCanSet hrE hn1, aft_v, sg_X9_set_12, tv_t ⟨hs1, hv⟩, if_neg (by omega), m1, aft_n, sg_X9_set_24]
          rw [ev_setNow (E := kE (setD (begD D1 n) n c v) g) (D := D1) (fun w hw => by rw [hw617]; exact eq_nm hr1 hn1 hw) hs.1.1 hs.1.2 hs.2.1 hs.2.2.2 (fun z => by
            rw [hw617] at z
            have r1 : D1 617 n = (if D1 16 n = 0 then -1 else D1 16 n) := (hr1.1 n hs.1.1 hs.1.2).1
            have s1 : 0 ≤ D1 16 n := (hn1.2.1 n hs.1.1 hs.1.2).1.1
            omega), aft_n, sg_X9_set_31, cm_wr_id (by have := hs.1; omega) (by have := hs.1; omega), ck_t (by have := hs.1; omega), ua_same, hw617, r12]
        · rw [setD_h, KP_o hR hk (by omega)]
    · refine MM_f hR ?_ (fun Y => ?_)
      · show cm_x 123 0 [some (.inr (.inr 0)), some (.inl (n)), some (.inl (c)), some (.inl (v))] [] (cm_hp D X) = _
        rw [sg_X8_set_0, if_neg (by omega), if_neg (by omega), ev_canSet, aft_v, sg_X8_set_20, tv_f hs, if_pos rfl, sg_X8_refuse_0, aft_v, sg_X8_set_27]
      · show cm_x 243 0 [some (.inr (.inr 613)), some (.inl n), some (.inl c), some (.inl v)] [] (cm_hp (cm_up D 0 9 (cm_wr (D 0 9 + 1))) Y) = _
        rw [sg_X9_set_0, ev_mCanSet (D := D) (E := cm_up (cm_up D 0 9 (cm_wr (D 0 9 + 1))) 613 0 0) hr hn, aft_v, sg_X9_set_12, tv_f (fun z => hs z.1), if_pos rfl, sg_X9_refuse_0, aft_v, sg_X9_set_19]
        rfl
  · refine MM_f hR ?_ (fun Y => ?_)
    · show cm_x 123 0 [some (.inr (.inr 0)), some (.inl (n)), some (.inl (c)), some (.inl (v))] [] (cm_hp D X) = _
      rw [sg_X8_set_0]
      by_cases h0 : v < 0
      · rw [if_pos h0, sg_X8_refuse_0, aft_v, sg_X8_set_27]
      · rw [if_neg h0, if_pos (by omega), sg_X8_refuse_0, aft_v, sg_X8_set_27]
    · show cm_x 243 0 [some (.inr (.inr 613)), some (.inl n), some (.inl c), some (.inl v)] [] (cm_hp (cm_up D 0 9 (cm_wr (D 0 9 + 1))) Y) = _
      rw [sg_X9_set_0, ev_mCanSet (D := D) (E := cm_up (cm_up D 0 9 (cm_wr (D 0 9 + 1))) 613 0 0) hr hn, aft_v, sg_X9_set_12, tv_f (fun z => hv z.2), if_pos rfl, sg_X9_refuse_0, aft_v, sg_X9_set_19]
      rfl
