/-! ends: the call, both -/
variable {D E : Nat → Int → Int} {X : cm_X} {K B K' B' A : Int → Int} {h pk c t : Int} {S : Nat → Int → Int} {r : Int → Int}
/-- the class, were one more block faulty -/
theorem ev_endWith (hz : zOk D) (hf : fOk (D 10) (D 614 4) (D 615)) {P x : Int} (hP : P ≤ 1000) (h0 : 0 ≤ D 15 9) (h1 : D 15 9 ≤ 1000) : cm_x 148 0 [some (.inr (.inr 0)), some (.inl (P)), some (.inl (x)), none] [] (cm_hp D X) = some (.inl (some (.inl (if (fwD D x P 400 (D 15 9) 0).2 = 0 then (fwD D x P 400 (D 15 9) 0).1 else -2))), cm_hp (cm_up D 9 4 (fwD D x P 400 (D 15 9) 0).2) X) := by
  have q : (cm_up D 9 4 (fwD D x P 400 (D 15 9) 0).2) 9 4 = (fwD D x P 400 (D 15 9) 0).2 := rfl
  rw [sg_X8_endWith_0, ev_foresee hz hf hP h0 h1, aft_v, sg_X8_endWith_16, q]
  by_cases hb : (fwD D x P 400 (D 15 9) 0).2 = 0
  · rw [if_pos hb, if_pos hb]
  · rw [if_neg hb, if_neg hb]
/-- the relation behind a look ahead -/
theorem R_look {F : Nat → Int → Int} {u : Int} (hR : R D t) (hF : eFr D (cm_up (cm_up D 9 4 u) 613 0 0) F) : R F (t + 400) ∧ F 100000 = D 100000 := by
  obtain ⟨f1, f2, f3, f4, f5⟩ := hF
  have h9 : F 9 = cm_u1 (D 9) 4 u := by rw [f5 9 (by omega) (by omega) (by omega) (by omega) (by omega) (by omega)]; rfl
  have hx : ∀ a : Nat, a ≠ 9 → a ≠ 613 → a ≠ 619 → a ≠ 620 → a ≠ 622 → a ≠ 623 → a ≠ 624 → F a = D a := fun a b1 b2 b3 b4 b5 b6 b7 => by rw [f5 a b2 b3 b4 b5 b6 b7, up_row b2, up_row b1]
  have h6 : ∀ j, j ≠ 0 → j ≠ 25 → j ≠ 26 → j ≠ 27 → F 613 j = D 613 j := fun j a b c d => by
    rw [f2 j b c d, up_same, u1_ne a]; rfl
  refine ⟨R_up hR (fun a ha a1 a2 => ?_) ?_ ⟨h6 9 (by omega) (by omega) (by omega) (by omega), h6 18 (by omega) (by omega) (by omega) (by omega), h6 21 (by omega) (by omega) (by omega) (by omega), h6 29 (by omega) (by omega) (by omega) (by omega), h6 33 (by omega) (by omega) (by omega) (by omega), h6 34 (by omega) (by omega) (by omega) (by omega)⟩ (fun b b0 b1 => ⟨?_, fun i i0 i1 => ?_⟩) ?_, hx _ (by omega) (by omega) (by omega) (by omega) (by omega) (by omega) (by omega)⟩
  · unfold cRow at ha
    exact hx a (by omega) (by omega) a1 a2 (by omega) (by omega) (by omega)
  · rw [h9]; exact ⟨rfl, rfl, rfl, rfl⟩
  · rw [f3 b b1]; rfl
  · rw [f4 _ (by omega)]; rfl
  · have := hR.2.2.2.2
    unfold lkOk at *
    rw [h9, hx 14 (by omega) (by omega) (by omega) (by omega) (by omega) (by omega) (by omega)]
    exact ⟨⟨this.1.1, by have := this.1.2; show D 9 10 ≤ _; omega⟩, this.2⟩
theorem q_ends (hR : R D t) (X : cm_X) : MM t D X (fun H => cm_x 147 0 [some (.inr (.inr 0))] [] H) (fun H => cm_x 266 0 [some (.inr (.inr 613))] [] H) := by
  have hc := hR.1
  have hd := hc.1
  have hz := hd.1
  have hf := hc.2.2.1
  have hr := hc.2.2.2.2.1
  have hn := hc.2.2.2.2.2.1
  have gd := d_g hd
  have hh0 := gd.2.2.1
  have hh4 := gd.2.2.2
  have h21 : D 613 21 = -1 := hc.2.2.2.1
  have pb := pkB_c hn hz
  have hlk : lOk D := fun n a b => (hn.2.1 n a b).2.1
  have mdl : ∀ (u : Int) Y, ∃ F, cm_x 266 0 [some (.inr (.inr 613))] [] (cm_hp (cm_up D 9 4 u) Y) = some (.inl (some (.inl (endV D (-1)))), cm_hp F Y) ∧ R F (t + 400) ∧ F 100000 = D 100000 := fun u Y => by
    obtain ⟨F, m1, m2⟩ := ev_mEnds (D := D) (E := cm_up (cm_up D 9 4 u) 613 0 0) (X := Y) hz hf hr hn hc.2.1 rfl rfl hh0 hh4
    have q : (cm_up (cm_up D 9 4 u) 613 0 0) 613 21 = -1 := h21
    rw [q] at m1
    exact ⟨F, by rw [sg_X9_ends_0, m1, aft_v, sg_X9_ends_9], R_look hR m2⟩
  by_cases hb : canB D
  · have e1 : endV D (-1) = if (fwN D (-1)).2 = 0 then (fwN D (-1)).1 else -2 := by unfold endV; rw [tv_t hb, if_neg (by omega)]
    refine ⟨endV D (-1), cm_up D 9 4 (fwN D (-1)).2, ?_, fun Y => mdl _ Y⟩
    show cm_x 147 0 [some (.inr (.inr 0))] [] (cm_hp D X) = _
    rw [sg_X8_ends_0, ev_canBegin hz hn hh0 hh4, aft_v, sg_X8_ends_4, tv_t hb, if_neg (by omega), ev_pkNow hz hlk, aft_v, sg_X8_ends_12, ((cCnt_0 hn).2 hb.1).1, ev_endWith hz hf (by omega) hh0 (by omega), aft_v, sg_X8_ends_16, e1]
    rfl
  · have e1 : endV D (-1) = -1 := by unfold endV; rw [tv_f hb, if_pos rfl]
    have same : cm_up D 9 4 (D 9 4) = D := by rw [up_to_ua, u1_id, ua_id]
    refine ⟨-1, D, ?_, fun Y => ?_⟩
    · show cm_x 147 0 [some (.inr (.inr 0))] [] (cm_hp D X) = _
      rw [sg_X8_ends_0, ev_canBegin hz hn hh0 hh4, aft_v, sg_X8_ends_4, tv_f hb, if_pos rfl]
    · obtain ⟨F, a, b⟩ := mdl (D 9 4) Y
      rw [same, e1] at a
      exact ⟨F, a, b⟩
