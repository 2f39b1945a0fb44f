/-! ends: the call -/
variable {D E : Nat → Int → Int} {X : cm_X} {K B K' B' A : Int → Int} {h pk c t : Int} {S : Nat → Int → Int} {r : Int → Int}
noncomputable def fwN (D : Nat → Int → Int) (x : Int) : Int × Int := fwD D x (pkB (D 9 1) (cCon D + 1)) 400 (D 15 9) 0
noncomputable def endV (D : Nat → Int → Int) (x : Int) : Int := if tv (canB D) = 0 then -1 else if (fwN D x).2 = 0 then (fwN D x).1 else -2
/-- what looking ahead leaves -/
def eFr (D E F : Nat → Int → Int) : Prop := F 617 = E 617 ∧ (∀ j, j ≠ 25 → j ≠ 26 → j ≠ 27 → F 613 j = E 613 j) ∧ (∀ b, b < D 15 9 → F 619 b = E 619 b) ∧ (∀ y, y < 15 * D 15 9 → F 620 y = E 620 y) ∧ ∀ a : Nat, a ≠ 613 → a ≠ 619 → a ≠ 620 → a ≠ 622 → a ≠ 623 → a ≠ 624 → F a = E a
theorem spE_X {F : Nat → Int → Int} {x : Int} (e9 : ∀ j, 0 ≤ j → j < 4 → F 614 j = D 9 j) (e4 : F 614 4 = D 614 4) (e15 : F 615 = D 615) (e21 : F 613 21 = x) : spE F = spX D x := by
  have q1 := e9 1 (by omega) (by omega)
  have q2 := e9 2 (by omega) (by omega)
  funext e
  apply propext
  unfold spE spX spr fltX
  rw [q1, q2, e4, e15, e21]
  constructor
  · rintro ⟨b, b0, b1, b2 | b2⟩
    · exact Or.inr ⟨by omega, by omega⟩
    · exact Or.inl ⟨b, b0, b1, b2⟩
  · rintro (⟨b, b0, b1, b2⟩ | ⟨b0, b1⟩)
    · exact ⟨b, b0, b1, Or.inr b2⟩
    · exact ⟨x, b0, b1, Or.inl rfl⟩
theorem ev_mEnds (hz : zOk D) (hf : fOk (D 10) (D 614 4) (D 615)) (hr : rS (stt D 15) (E 617)) (hn : nS (stt D 15)) (e9 : ∀ j, 0 ≤ j → j < 4 → E 614 j = D 9 j) (e4 : E 614 4 = D 614 4) (e15 : E 615 = D 615) (h0 : 0 ≤ D 15 9) (h1 : D 15 9 ≤ 400) : ∃ F, cm_x 265 0 [some (.inr (.inr 613)), none, none, none, none] [] (cm_hp E X) = some (.inl (some (.inl (endV D (E 613 21)))), cm_hp F X) ∧ eFr D E F := by
  have hN : ∀ v, cNm D v ≠ -1 → 0 ≤ cNm D v ∧ cNm D v < 12 := fun v hv => (nm_B hv).1
  have h8 : ∀ n, 0 ≤ n → n < 12 → stt D 15 2 n ≤ 8 := fun n a b => (hn.2.1 n a b).2.1.2
  obtain ⟨E1, c1, hm, m26, m4⟩ := ev_mCanBegin (E := E) (X := X) hz hr hn e9 h0 h1
  obtain ⟨z1, z2, z3, z4, z5⟩ := hz
  have hl := pl_len (S := stt D 15) (N := cNm D) (pk := D 9 1) z2.1 z2.2 (pl0_len hN h8)
  rw [pl0_n hn] at hl
  have x14 : E1 614 = E 614 := m4.2 614 (by omega) (by omega) (by omega)
  have x17 : E1 617 = E 617 := m4.2 617 (by omega) (by omega) (by omega)
  have x15 : E1 615 = E 615 := m4.2 615 (by omega) (by omega) (by omega)
  have x21 : E1 613 21 = E 613 21 := m4.1 21 (by omega) (by omega)
  have x244 : E 617 244 = D 15 9 := hr.2.2.2.2.2.2.1
  have q0 := e9 0 (by omega) (by omega)
  have q1 := e9 1 (by omega) (by omega)
  have q2 := e9 2 (by omega) (by omega)
  have q3 := e9 3 (by omega) (by omega)
  rw [sg_X9_endsNow_0, c1, aft_v, sg_X9_endsNow_4]
  unfold endV
  by_cases hb : tv (canB D) = 0
  · refine ⟨E1, by rw [if_pos hb, if_pos hb], x17, fun j a b c => m4.1 j a b, fun b _ => by rw [m4.2 619 (by omega) (by omega) (by omega)], fun y _ => by rw [m4.2 620 (by omega) (by omega) (by omega)], fun a a1 a2 a3 a4 a5 a6 => m4.2 a a1 a4 a5⟩
  · rw [if_neg hb, if_neg hb]
    have y14 : (cm_up E1 613 27 0) 614 = E 614 := x14
    have y17 : (cm_up E1 613 27 0) 617 = E 617 := x17
    have y27 : (cm_up E1 613 27 0) 613 27 = 0 := rfl
    have y26 : (cm_up E1 613 27 0) 613 26 = pkB (D 9 1) (cCon D + 1) := m26
    have y25 : (cm_up E1 613 27 0) 613 25 = ((pl (stt D 15) (cNm D) (D 9 1)).length : Int) := hm.1
    have hm2 : mHol (cm_up E1 613 27 0) (pl (stt D 15) (cNm D) (D 9 1)) := hm
    have hw : wOk (cm_up E1 613 27 0) := by
      unfold wOk
      rw [y14, y25, y26, q0, q1, q2, q3, e4]
      refine ⟨z1, z2, z3, z4, ⟨hf.2.2.1, hf.2.2.2⟩, by omega, by omega, fun t t0 t1 => ?_⟩
      exact hol_ok (S := stt D 15) (N := cNm D) (pk := D 9 1) hn (by rw [y17]; exact hr) hN hl.2 hm2 t0 (by omega)
    obtain ⟨br, F, L, P, W⟩ := ev_wA (X := X) 400 (cm_up E1 613 27 0) 0 hw (by omega) (by rw [y27]; omega) (by rw [y27, y17, x244]; exact h0) (by rw [y17, x244]; exact h1) (by rw [y14, y17, x244, q0]; omega)
    have eR : rmE (cm_up E1 613 27 0) = rm D := by
      unfold rmE rm
      rw [y14, q0, q1, q2, q3]
    have eS : spE (cm_up E1 613 27 0) = spX D (E 613 21) := spE_X (fun j a b => by rw [y14]; exact e9 j a b) (by rw [y14]; exact e4) (by show E1 615 = _; rw [x15]; exact e15) x21
    rw [eR, eS, y14, y26, y17, x244, q1, q2] at P
    have P2 : fwN D (E 613 21) = (F 617 244, br) := by
      rw [← P]
      exact (fw_m2 (M := D 9 0) (by omega) (fun e z => by unfold rm at z; omega) 399 _ _ (by omega)).symm
    rw [y14, q1, q2] at L
    obtain ⟨w1, w2, w3, w4, -, -, w7⟩ := W
    rw [y17, x244] at w3 w4
    have hwr : cm_wr (E 614 2 + E 614 1) = D 9 2 + D 9 1 := by rw [q1, q2, cm_wr_id (by omega) (by omega)]
    rw [P2]
    dsimp only
    refine ⟨cm_up (cm_up F 617 244 (E 617 244)) 617 245 (E 617 245), ?_, ?_, fun j a b c => ?_, fun b hb2 => ?_, fun y hy => ?_, fun a a1 a2 a3 a4 a5 a6 => ?_⟩
    · rw [sg_X9_writeAll_0, x14, hwr, L, aft_v, sg_X9_endsNow_34, x17]
      by_cases h0' : br = 0
      · rw [if_pos h0', if_pos h0']
      · rw [if_neg h0', if_neg h0']
    · rw [up_same, up_same]
      funext j
      by_cases h5 : j = 245
      · rw [h5, u1_eq]
      · rw [u1_ne h5]
        by_cases h4' : j = 244
        · rw [h4', u1_eq]
        · rw [u1_ne h4', w2 j h4' h5, y17]
    · rw [up_row (by omega), up_row (by omega), w1 j c]
      show (cm_u1 (E1 613) 27 0) j = _
      rw [u1_ne c, m4.1 j a b]
    · rw [up_row (by omega), up_row (by omega), w3 b hb2]
      show E1 619 b = _
      rw [m4.2 619 (by omega) (by omega) (by omega)]
    · rw [up_row (by omega), up_row (by omega), w4 y hy]
      show E1 620 y = _
      rw [m4.2 620 (by omega) (by omega) (by omega)]
    · by_cases a7 : a = 617
      · rw [a7, up_same, up_same]
        funext j
        by_cases h5 : j = 245
        · rw [h5, u1_eq]
        · rw [u1_ne h5]
          by_cases h4' : j = 244
          · rw [h4', u1_eq]
          · rw [u1_ne h4', w2 j h4' h5, y17]
      · rw [up_row a7, up_row a7, w7 a a1 a7 a2 a3 a6, up_row a1, m4.2 a a1 a4 a5]
