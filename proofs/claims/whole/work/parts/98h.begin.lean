/-! whether a writing may begin: both -/
variable {D E : Nat → Int → Int} {X : cm_X} {K B K' B' A F : Int → Int} {h pk t c : Int} {S : Nat → Int → Int} {r : Int → Int}
def canB (D : Nat → Int → Int) : Prop := cAny D ≠ 0 ∧ D 15 9 + pkB (D 9 1) (cCon D + 1) * (D 9 2 + D 9 1) + D 9 3 ≤ D 9 0
theorem cstB {p q : Int} (q0 : 0 ≤ q) (q1 : q ≤ 110) (p0 : 2 ≤ p) (p1 : p ≤ 20) : 0 ≤ q * p ∧ q * p ≤ 2200 := by
  have h1 : q * p ≤ 110 * p := Int.mul_le_mul_of_nonneg_right q1 (by omega)
  have h2 : 0 ≤ q * p := Int.mul_nonneg q0 (by omega)
  omega
theorem pkB_c (hn : nS (stt D 15)) (hz : zOk D) : 1 ≤ pkB (D 9 1) (cCon D + 1) ∧ pkB (D 9 1) (cCon D + 1) ≤ 110 := by
  obtain ⟨-, z2, -⟩ := hz
  have hl : lOk D := fun n a b => (hn.2.1 n a b).2.1
  have cb := cCon_b hl
  obtain ⟨-, a, b, c, -, -⟩ := pkB_eq (p := D 9 1) (c := cCon D + 1) z2.1 z2.2 (by omega) (by omega)
  exact ⟨c (by omega), by omega⟩
theorem ev_canBegin (hz : zOk D) (hn : nS (stt D 15)) (h0 : 0 ≤ D 15 9) (h1 : D 15 9 ≤ 400) : cm_x 132 0 [some (.inr (.inr 0)), none] [] (cm_hp D X) = some (.inl (some (.inl (tv (canB D)))), cm_hp D X) := by
  have hl : lOk D := fun n a b => (hn.2.1 n a b).2.1
  obtain ⟨c0, c1⟩ := cCnt_0 hn
  have pb := pkB_c hn hz
  have cb := cCnt_b hn
  rw [sg_X8_canBegin_0, ev_pkNow hz hl, aft_v, sg_X8_canBegin_4]
  by_cases ha : cAny D = 0
  · have e : pkB (D 9 1) (cCnt D) ≤ 0 := by
      rw [c0 ha]
      obtain ⟨-, z2, -⟩ := hz
      obtain ⟨-, a, b, -, -, -⟩ := pkB_eq (p := D 9 1) (c := 0) z2.1 z2.2 (by omega) (by omega)
      omega
    rw [if_neg (by omega), tv_f (fun z => z.1 ha)]
  · obtain ⟨z1, z2, z3, z4, -⟩ := hz
    have cc := (c1 ha).1
    have w := cstB (p := D 9 2 + D 9 1) (by omega) pb.2 (by omega) (by omega)
    rw [cc, if_pos (by omega), cm_wr_id (x := D 9 2 + D 9 1) (by omega) (by omega), cm_wr_id (x := pkB (D 9 1) (cCon D + 1) * (D 9 2 + D 9 1)) (by omega) (by omega), cm_wr_id (x := D 15 9 + _) (by omega) (by omega), cm_wr_id (by omega) (by omega)]
    by_cases hb : canB D
    · rw [tv_t hb, if_neg (by have := hb.2; omega)]
    · rw [tv_f hb, if_pos (by
        have : ¬ (D 15 9 + pkB (D 9 1) (cCon D + 1) * (D 9 2 + D 9 1) + D 9 3 ≤ D 9 0) := fun z => hb ⟨ha, z⟩
        omega)]
theorem ev_mCanBegin (hz : zOk D) (hr : rS (stt D 15) (E 617)) (hn : nS (stt D 15)) (e9 : ∀ j, 0 ≤ j → j < 4 → E 614 j = D 9 j) (h0 : 0 ≤ D 15 9) (h1 : D 15 9 ≤ 400) : ∃ E', cm_x 205 0 [some (.inr (.inr 613))] [] (cm_hp E X) = some (.inl (some (.inl (tv (canB D)))), cm_hp E' X) ∧ mHol E' (pl (stt D 15) (cNm D) (D 9 1)) ∧ E' 613 26 = pkB (D 9 1) (cCon D + 1) ∧ fL E E' := by
  have pb := pkB_c hn hz
  obtain ⟨z1, z2, z3, z4, -⟩ := hz
  have q1 := e9 1 (by omega) (by omega)
  have q0 := e9 0 (by omega) (by omega)
  have q2 := e9 2 (by omega) (by omega)
  have q3 := e9 3 (by omega) (by omega)
  obtain ⟨E', m1, m2, m3, m4⟩ := ev_mLay (E := E) (X := X) (S := stt D 15) (N := cNm D) hr hn (fun v hv => (nm_B hv).1) (fun v hv => eq_nm hr hn hv) (by omega) (by omega)
  rw [q1, pl0_n hn] at m3
  rw [q1] at m2
  have e617 : E' 617 = E 617 := m4.2 617 (by omega) (by omega) (by omega)
  have e614 : E' 614 = E 614 := m4.2 614 (by omega) (by omega) (by omega)
  have ea : mAny (E 617) = cAny D := eq_any hr hn
  have e244 : E 617 244 = D 15 9 := hr.2.2.2.2.2.2.1
  refine ⟨E', ?_, m2, m3, m4⟩
  rw [sg_X9_canBegin_0, m1, aft_n, sg_X9_canBegin_4, ev_mAny, aft_v, sg_X9_canBegin_8, e617, e614, ea, m3, e244, q0, q1, q2, q3]
  by_cases ha : cAny D = 0
  · rw [if_pos ha, tv_f (fun z => z.1 ha)]
  · have w := cstB (p := D 9 2 + D 9 1) (by omega) pb.2 (by omega) (by omega)
    rw [if_neg ha, cm_wr_id (x := D 9 2 + D 9 1) (by omega) (by omega), cm_wr_id (x := pkB (D 9 1) (cCon D + 1) * (D 9 2 + D 9 1)) (by omega) (by omega), cm_wr_id (x := D 15 9 + _) (by omega) (by omega), cm_wr_id (by omega) (by omega)]
    by_cases hb : canB D
    · rw [tv_t hb, if_neg (by have := hb.2; omega)]
    · rw [tv_f hb, if_pos (by
        have : ¬ (D 15 9 + pkB (D 9 1) (cCon D + 1) * (D 9 2 + D 9 1) + D 9 3 ≤ D 9 0) := fun z => hb ⟨ha, z⟩
        omega)]
