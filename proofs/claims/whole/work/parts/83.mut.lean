/-! the relation where the tape or what was refused changes; refused calls; mutations of what is in mind -/
variable {D E : Nat → Int → Int} {X : cm_X} {K B K' B' : Int → Int} {h pk t : Int} {S T : Nat → Int → Int} {r : Int → Int}
def cRow2 (a : Nat) : Prop := (10 ≤ a ∧ a ≤ 13) ∨ (15 ≤ a ∧ a ≤ 21) ∨ a = 26 ∨ (28 ≤ a ∧ a ≤ 308) ∨ (311 ≤ a ∧ a ≤ 313) ∨ (315 ≤ a ∧ a ≤ 603) ∨ (614 ≤ a ∧ a ≤ 615) ∨ a = 617 ∨ (619 ≤ a ∧ a ≤ 620) ∨ a = 626 ∨ (628 ≤ a ∧ a ≤ 632)
def eqQ (D E : Nat → Int → Int) : Prop := (∀ a, cRow2 a → E a = D a) ∧ (E 9 0 = D 9 0 ∧ E 9 1 = D 9 1 ∧ E 9 2 = D 9 2 ∧ E 9 3 = D 9 3) ∧ E 613 21 = D 613 21 ∧ E 613 29 = D 613 29 ∧ E 613 33 = D 613 33 ∧ E 613 34 = D 613 34
theorem eqQ_stt (e : eqQ D E) {a : Nat} (ha : ∀ j : Nat, j < 7 → cRow2 (a + j)) : agS (stt E a) (stt D a) := agS_of fun j hj => e.1 _ (ha j hj)
theorem dOk_eqQ (e : eqQ D E) (hd : dOk D K B h) : dOk E K B h := dOk_of e.2.1.1 e.2.1.2.1 e.2.1.2.2.1 e.2.1.2.2.2 (e.1 11 (by unfold cRow2; omega)) (e.1 12 (by unfold cRow2; omega)) (e.1 13 (by unfold cRow2; omega)) hd
theorem Rc_eq2 (e : eqQ D E) (hr : Rc D) : Rc E := by
  obtain ⟨r1, r2, r3, r4, r5, r6⟩ := hr
  have e15 := e.1 15 (by unfold cRow2; omega)
  have ha := eqQ_stt e (a := 15) (fun j hj => by unfold cRow2; omega)
  unfold Rc
  rw [e.1 619 (by unfold cRow2; omega), e.1 620 (by unfold cRow2; omega), e.1 614 (by unfold cRow2; omega), e.1 615 (by unfold cRow2; omega), e.1 617 (by unfold cRow2; omega), e.1 10 (by unfold cRow2; omega), e15, e.2.1.2.1, e.2.2.1]
  refine ⟨dOk_eqQ e r1, fun j j0 j1 => ?_, r3, r4, rS_ag ha r6.1 r5, wS_ag ha r6⟩
  have h4 : j = 0 ∨ j = 1 ∨ j = 2 ∨ j = 3 := by omega
  rw [r2 j j0 j1]
  rcases h4 with rfl | rfl | rfl | rfl
  · exact e.2.1.1.symm
  · exact e.2.1.2.1.symm
  · exact e.2.1.2.2.1.symm
  · exact e.2.1.2.2.2.symm
theorem adr_c2 {q : Int} (h1 : q < 40) {j : Nat} (hj : j < 7) : cRow2 (adr q + j) := by unfold cRow2 adr; omega
theorem bdr_c2 {q : Int} (h1 : q < 40) {j : Nat} (hj : j < 7) : cRow2 (bdr q + j) := by unfold cRow2 bdr; omega
theorem aR_eq2 (e : eqQ D E) (hc : Rc D) (hr : aR D) : aR E := by
  unfold aR
  rw [e.1 619 (by unfold cRow2; omega), e.1 620 (by unfold cRow2; omega), e.1 626 (by unfold cRow2; omega), e.1 26 (by unfold cRow2; omega), e.1 15 (by unfold cRow2; omega), e.2.1.2.1, e.2.2.2.1]
  exact ⟨aG_eq eqB_rf (rDk_ln hc.1.2.1) hc.1.2.2.1 (fun q q0 q1 => eqQ_stt e (fun j hj => adr_c2 q1 hj)) (fun _ _ _ => rfl) (Int.le_refl _) hr.1, hr.2⟩
theorem iR_eq2 (e : eqQ D E) (hr : iR D) : iR E := by
  obtain ⟨r1, r2, r3⟩ := hr
  have ha := eqQ_stt e (a := 315) (fun j hj => by unfold cRow2; omega)
  unfold iR
  rw [e.1 308 (by unfold cRow2; omega), e.1 311 (by unfold cRow2; omega), e.1 312 (by unfold cRow2; omega), e.1 313 (by unfold cRow2; omega), e.1 630 (by unfold cRow2; omega), e.1 631 (by unfold cRow2; omega), e.1 315 (by unfold cRow2; omega), e.1 628 (by unfold cRow2; omega), e.1 629 (by unfold cRow2; omega), e.1 632 (by unfold cRow2; omega), e.1 322 (by unfold cRow2; omega), e.2.1.1, e.2.1.2.1, e.2.2.2.2.1, e.2.2.2.2.2]
  refine ⟨r1, r2, fun hp => ?_⟩
  obtain ⟨q1, q2, q3, q4, q5, q6, q7⟩ := r3 hp
  exact ⟨q1, q2, q3, rS_ag ha q5.1 q4, wS_ag ha q5, aG_eq eqB_rf (rDk_ln q1) q2 (fun q q0 q1 => eqQ_stt e (fun j hj => bdr_c2 q1 hj)) (fun _ _ _ => rfl) (Int.le_refl _) q6, q7⟩
theorem R_eq2 {t t' : Int} (e : eqQ D E) (ht : tR E) (hl : lkOk E t') (hr : R D t) : R E t' := by
  obtain ⟨r1, r2, r3, r4, r5⟩ := hr
  exact ⟨Rc_eq2 e r1, aR_eq2 e r1 r2, iR_eq2 e r3, ht, hl⟩
/-- a refused call: both count it -/
def rfE (D : Nat → Int → Int) : Nat → Int → Int := cm_up (cm_up (cm_up D 0 9 (cm_wr (D 0 9 + 1))) 613 0 0) 616 1 (cm_wr (D 616 1 + 1))
theorem rf_R (hR : R D t) : R (rfE D) (t + 400) := by
  refine R_eq2 (D := D) ⟨fun a ha => ?_, ⟨rfl, rfl, rfl, rfl⟩, rfl, rfl, rfl, rfl⟩ ?_ (lk_mono hR.2.2.2.2 (by omega)) hR
  · unfold cRow2 at ha
    unfold rfE
    rw [up_row (by omega), up_row (by omega), up_row (by omega)]
  · obtain ⟨t1, t2, t3, t4, t5, t6⟩ := hR.2.2.2.1
    refine ⟨t1, t2, t3, t4, t5, ?_⟩
    show cm_wr (D 616 1 + 1) = cm_wr (D 0 9 + 1)
    rw [t6]
theorem MM_f {cl md : cm_H → cm_R} (hR : R D t) (hc : cl (cm_hp D X) = some (.inl (some (.inl (-1))), cm_hp (cm_up D 0 9 (cm_wr (D 0 9 + 1))) X)) (hm : ∀ Y, md (cm_hp (cm_up D 0 9 (cm_wr (D 0 9 + 1))) Y) = some (.inl (some (.inl (-1))), cm_hp (rfE D) Y)) : MM t D X cl md := ⟨-1, _, hc, fun Y => ⟨rfE D, hm Y, rf_R hR, rfl⟩⟩
/-- what is in mind is changed: the disc stays -/
theorem Rc_mut (hc : Rc D) (hd : ∀ a : Nat, (9 ≤ a ∧ a ≤ 13) ∨ a = 614 ∨ a = 615 ∨ a = 619 ∨ a = 620 → E a = D a) (h21 : E 613 21 = D 613 21) (h9 : E 15 9 = D 15 9) (hr : rS (stt E 15) (E 617)) (hw : wS (D 9 1) (D 619) (D 620) (stt E 15)) : Rc E := by
  obtain ⟨r1, r2, r3, r4, r5, r6⟩ := hc
  have e9 := hd 9 (by omega)
  unfold Rc
  rw [hd 619 (by omega), hd 620 (by omega), hd 614 (by omega), hd 615 (by omega), hd 10 (by omega), e9, h9, h21]
  exact ⟨dOk_of (by rw [e9]) (by rw [e9]) (by rw [e9]) (by rw [e9]) (hd 11 (by omega)) (hd 12 (by omega)) (hd 13 (by omega)) r1, r2, r3, r4, hr, hw⟩
