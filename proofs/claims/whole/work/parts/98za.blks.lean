/-! the blocks of a packet: the class -/
variable {D E : Nat → Int → Int} {X : cm_X} {S : Nat → Int → Int} {L : List CT}
def okD (D : Nat → Int → Int) (t : Int) : Prop := (D 23 t = 3 → (0 ≤ D 24 t ∧ D 24 t < 12) ∧ 0 ≤ D 25 t ∧ D 25 t < 8) ∧ (D 23 t = 4 → (0 ≤ D 24 t ∧ D 24 t < 12) ∧ 0 ≤ D 17 (D 24 t) ∧ D 17 (D 24 t) ≤ 8)
def lnC (D : Nat → Int → Int) (t : Int) : Int := if D 23 t = 3 then 1 else if D 23 t = 4 then D 17 (D 24 t) else if D 23 t = 5 then 12 else if D 23 t = 6 then 15 else 0
def tlC (D : Nat → Int → Int) (t i : Int) : Int := if D 23 t = 3 then D 20 (D 24 t * 8 + D 25 t) else if D 23 t = 4 then D 19 (D 24 t * 8 + i) else if D 23 t = 5 then (if D 16 i = 0 then -1 else D 16 i) else mpT D i
theorem lnC_b {t : Int} (ok : okD D t) : 0 ≤ lnC D t ∧ lnC D t ≤ 15 := by
  unfold lnC
  by_cases h3 : D 23 t = 3
  · rw [if_pos h3]; omega
  · rw [if_neg h3]
    by_cases h4 : D 23 t = 4
    · have := ok.2 h4
      rw [if_pos h4]; omega
    · rw [if_neg h4]
      by_cases h5 : D 23 t = 5
      · rw [if_pos h5]; omega
      · rw [if_neg h5]
        by_cases h6 : D 23 t = 6
        · rw [if_pos h6]; omega
        · rw [if_neg h6]; omega
theorem ev_wb (hz : zOk D) (hf : fOk (D 10) (D 614 4) (D 615)) (b0 : 0 ≤ D 15 9) (b1 : D 15 9 < D 9 0) {x : Int} (x0 : 0 ≤ x) (x1 : x < D 22 3) (x2 : x < 126) (ok : okD D x) : ∃ F, cm_x 11 0 [some (.inr (.inr 22)), some (.inr (.inr 15)), some (.inr (.inr 9)), some (.inl (x)), none] [] (cm_hp D X) = some (.inl none, cm_hp F X) ∧ wbQ D F (D 23 x) (lnC D x) (tlC D x) := by
  by_cases h3 : D 23 x = 3
  · obtain ⟨o1, o2, o3⟩ := ok.1 h3
    obtain ⟨F, a, b⟩ := ev_wb3 (X := X) hz hf b0 b1 x0 x1 x2 h3 o1.1 o1.2 o2 o3
    refine ⟨F, a, ?_⟩
    have e1 : lnC D x = 1 := by unfold lnC; rw [if_pos h3]
    have e2 : tlC D x = fun _ => D 20 (D 24 x * 8 + D 25 x) := by funext i; unfold tlC; rw [if_pos h3]
    rw [e1, e2, h3]; exact b
  · by_cases h4 : D 23 x = 4
    · obtain ⟨o1, o2, o3⟩ := ok.2 h4
      obtain ⟨F, a, b⟩ := ev_wb4 (X := X) hz hf b0 b1 x0 x1 x2 h4 o1.1 o1.2 o2 o3
      refine ⟨F, a, ?_⟩
      have e1 : lnC D x = D 17 (D 24 x) := by unfold lnC; rw [if_neg h3, if_pos h4]
      have e2 : tlC D x = fun i => D 19 (D 24 x * 8 + i) := by funext i; unfold tlC; rw [if_neg h3, if_pos h4]
      rw [e1, e2, h4]; exact b
    · by_cases h5 : D 23 x = 5
      · obtain ⟨F, a, b⟩ := ev_wb5 (X := X) hz hf b0 b1 x0 x1 x2 h5
        refine ⟨F, a, ?_⟩
        have e1 : lnC D x = 12 := by unfold lnC; rw [if_neg h3, if_neg h4, if_pos h5]
        have e2 : tlC D x = fun i => if D 16 i = 0 then -1 else D 16 i := by funext i; unfold tlC; rw [if_neg h3, if_neg h4, if_pos h5]
        rw [e1, e2, h5]; exact b
      · by_cases h6 : D 23 x = 6
        · obtain ⟨F, a, b⟩ := ev_wb6 (X := X) hz hf b0 b1 x0 x1 x2 h6
          refine ⟨F, a, ?_⟩
          have e1 : lnC D x = 15 := by unfold lnC; rw [if_neg h3, if_neg h4, if_neg h5, if_pos h6]
          have e2 : tlC D x = mpT D := by funext i; unfold tlC; rw [if_neg h3, if_neg h4, if_neg h5]
          rw [e1, e2, h6]; exact b
        · have e1 : lnC D x = 0 := by unfold lnC; rw [if_neg h3, if_neg h4, if_neg h5, if_neg h6]
          obtain ⟨F, a, b⟩ := ev_wbP (X := X) hz hf b0 b1 x0 x1 x2 h3 h4 h5 h6 (tlC D x)
          exact ⟨F, a, by rw [e1]; exact b⟩
/-- kind and length of a block of the packet of contents t0 on -/
noncomputable def ckd (D : Nat → Int → Int) (t0 b : Int) : Int := if b < D 15 9 + D 9 2 then 1 else wK D b (D 23 (t0 + (b - D 15 9 - D 9 2)))
noncomputable def cln (D : Nat → Int → Int) (t0 b : Int) : Int := if b < D 15 9 + D 9 2 then 0 else wL D b (D 23 (t0 + (b - D 15 9 - D 9 2))) (lnC D (t0 + (b - D 15 9 - D 9 2)))
/-- what j blocks leave -/
def bkW (D F : Nat → Int → Int) (t0 j : Int) : Prop := F 15 = cm_u1 (D 15) 9 (D 15 9 + j) ∧ (∀ b, F 11 b = if D 15 9 ≤ b ∧ b < D 15 9 + j then ckd D t0 b else D 11 b) ∧ (∀ b, F 12 b = if D 15 9 ≤ b ∧ b < D 15 9 + j then cln D t0 b else D 12 b) ∧ (∀ b, D 15 9 ≤ b → b < D 15 9 + j → ∀ i, 0 ≤ i → i < cln D t0 b → F 13 (b * 15 + i) = tlC D (t0 + (b - D 15 9 - D 9 2)) i) ∧ (∀ y, y < D 15 9 * 15 ∨ (D 15 9 + j) * 15 ≤ y → F 13 y = D 13 y) ∧ ∀ a : Nat, a ≠ 11 → a ≠ 12 → a ≠ 13 → a ≠ 15 → F a = D a
theorem bkW_0 {t0 : Int} : bkW D D t0 0 := ⟨by rw [Int.add_zero, u1_id], fun b => by rw [if_neg (by omega)], fun b => by rw [if_neg (by omega)], fun b b0 b1 => by omega, fun _ _ => rfl, fun _ _ _ _ _ => rfl⟩
theorem wL_b2 {b k l m : Int} (l0 : 0 ≤ l) (l1 : l ≤ m) : 0 ≤ wL D b k l ∧ wL D b k l ≤ m := by
  have := wL_b (D := D) (b := b) (k := k) l0
  omega
theorem cln_b {t0 b : Int} (ok : ¬ b < D 15 9 + D 9 2 → okD D (t0 + (b - D 15 9 - D 9 2))) : 0 ≤ cln D t0 b ∧ cln D t0 b ≤ 15 := by
  unfold cln
  by_cases h : b < D 15 9 + D 9 2
  · rw [if_pos h]; omega
  · have := lnC_b (ok h)
    rw [if_neg h]
    exact wL_b2 this.1 this.2
theorem bkW_z {F : Nat → Int → Int} {t0 j : Int} (hz : zOk D) (hP : bkW D F t0 j) (j1 : j ≤ D 9 2 + D 9 1) (ok : ∀ t, t0 ≤ t → t < t0 + D 9 1 → okD D t) : zOk F := by
  obtain ⟨p1, p2, p3, p4, p5, p6⟩ := hP
  obtain ⟨z1, z2, z3, z4, z5⟩ := hz
  have e9 := p6 9 (by omega) (by omega) (by omega) (by omega)
  unfold zOk
  rw [e9]
  refine ⟨z1, z2, z3, z4, fun b b0 b1 => ?_⟩
  rw [p3 b]
  by_cases h : D 15 9 ≤ b ∧ b < D 15 9 + j
  · rw [if_pos h]
    exact cln_b fun hb => ok _ (by omega) (by omega)
  · rw [if_neg h]; exact z5 b b0 b1
/-- one more block -/
theorem bkW_s {F F' : Nat → Int → Int} {t0 j k l : Int} {g : Int → Int} (hP : bkW D F t0 j) (j0 : 0 ≤ j) (hw : wbQ F F' k l g) (hk : wK F (D 15 9 + j) k = ckd D t0 (D 15 9 + j)) (hl : wL F (D 15 9 + j) k l = cln D t0 (D 15 9 + j)) (hc : ∀ b, D 15 9 ≤ b → b ≤ D 15 9 + j → cln D t0 b ≤ 15) (hg : ∀ i, 0 ≤ i → i < cln D t0 (D 15 9 + j) → g i = tlC D (t0 + (D 15 9 + j - D 15 9 - D 9 2)) i) : bkW D F' t0 (j + 1) := by
  obtain ⟨p1, p2, p3, p4, p5, p6⟩ := hP
  obtain ⟨w1, w2, w3, w4, w5⟩ := hw
  have e9 : F 15 9 = D 15 9 + j := by rw [p1, u1_eq]
  rw [e9] at w1 w2 w3 w4
  rw [hk] at w1
  rw [hl] at w2 w3
  refine ⟨?_, fun b => ?_, fun b => ?_, fun b b0 b1 i i0 i1 => ?_, fun y hy => ?_, fun a a1 a2 a3 a4 => by rw [w5 a a1 a2 a3 a4, p6 a a1 a2 a3 a4]⟩
  · rw [w4, p1, u1_u1, Int.add_assoc]
  · rw [w1]
    by_cases hb : b = D 15 9 + j
    · rw [hb, u1_eq, if_pos (by omega)]
    · rw [u1_ne hb, p2]
      by_cases h2 : D 15 9 ≤ b ∧ b < D 15 9 + j
      · rw [if_pos h2, if_pos (by omega)]
      · rw [if_neg h2, if_neg (by omega)]
  · rw [w2]
    by_cases hb : b = D 15 9 + j
    · rw [hb, u1_eq, if_pos (by omega)]
    · rw [u1_ne hb, p3]
      by_cases h2 : D 15 9 ≤ b ∧ b < D 15 9 + j
      · rw [if_pos h2, if_pos (by omega)]
      · rw [if_neg h2, if_neg (by omega)]
  · rw [w3]
    by_cases hb : b = D 15 9 + j
    · rw [hb] at i1 ⊢
      rw [if_pos (by omega), show (D 15 9 + j) * 15 + i - (D 15 9 + j) * 15 = i by omega]
      exact hg i i0 i1
    · have h15 := hc b b0 (by omega)
      rw [if_neg (by omega)]
      exact p4 b b0 (by omega) i i0 i1
  · have h15 := hc (D 15 9 + j) (by omega) (by omega)
    rw [w3, if_neg (by omega)]
    exact p5 y (by omega)
theorem ev_blks {t0 m y3 y4 y6 y7 y8 : Int} (hz : zOk D) (hf : fOk (D 10) (D 614 4) (D 615)) (b0 : 0 ≤ D 15 9) (b1 : D 15 9 + m ≤ D 9 0) (m0 : 0 ≤ m) (m1 : m ≤ D 9 2 + D 9 1) (t00 : 0 ≤ t0) (hl : t0 + D 9 1 ≤ D 22 3) (h6 : D 22 3 ≤ 126) (ok : ∀ t, t0 ≤ t → t < t0 + D 9 1 → okD D t) : ∃ F, cm_x 9 92 [some (.inr (.inr 22)), some (.inr (.inr 15)), some (.inr (.inr 9)), some (.inl (y3)), some (.inl (y4)), some (.inl (t0)), some (.inl (y6)), some (.inl (y7)), some (.inl (y8)), some (.inl (m)), some (.inl (0))] [] (cm_hp D X) = cm_x 9 92 [some (.inr (.inr 22)), some (.inr (.inr 15)), some (.inr (.inr 9)), some (.inl (y3)), some (.inl (y4)), some (.inl (t0)), some (.inl (y6)), some (.inl (y7)), some (.inl (y8)), some (.inl (m)), some (.inl (m))] [] (cm_hp F X) ∧ bkW D F t0 m := by
  have hcl : ∀ b, D 15 9 ≤ b → b < D 15 9 + m → 0 ≤ cln D t0 b ∧ cln D t0 b ≤ 15 := fun b c0 c1 => cln_b fun hb => ok _ (by omega) (by omega)
  have hz' := hz
  obtain ⟨z1, z2, z3, z4, z5⟩ := hz
  obtain ⟨F, R1, R2⟩ := lp_inv (X := fun j F => cm_x 9 92 [some (.inr (.inr 22)), some (.inr (.inr 15)), some (.inr (.inr 9)), some (.inl (y3)), some (.inl (y4)), some (.inl (t0)), some (.inl (y6)), some (.inl (y7)), some (.inl (y8)), some (.inl (m)), some (.inl (j))] [] (cm_hp F X)) (P := fun j F => bkW D F t0 j) (lo := 0) (hi := m) (fun j F j0 j1 hP => by
    have hzF := bkW_z hz' hP (by omega) ok
    have hP' := hP
    obtain ⟨p1, p2, p3, p4, p5, p6⟩ := hP'
    have e9 : F 15 9 = D 15 9 + j := by rw [p1, u1_eq]
    have q9 := p6 9 (by omega) (by omega) (by omega) (by omega)
    have q10 := p6 10 (by omega) (by omega) (by omega) (by omega)
    have q614 := p6 614 (by omega) (by omega) (by omega) (by omega)
    have q615 := p6 615 (by omega) (by omega) (by omega) (by omega)
    have q22 := p6 22 (by omega) (by omega) (by omega) (by omega)
    have q23 := p6 23 (by omega) (by omega) (by omega) (by omega)
    have q24 := p6 24 (by omega) (by omega) (by omega) (by omega)
    have q25 := p6 25 (by omega) (by omega) (by omega) (by omega)
    have q16 := p6 16 (by omega) (by omega) (by omega) (by omega)
    have q17 := p6 17 (by omega) (by omega) (by omega) (by omega)
    have q19 := p6 19 (by omega) (by omega) (by omega) (by omega)
    have q20 := p6 20 (by omega) (by omega) (by omega) (by omega)
    have q21 := p6 21 (by omega) (by omega) (by omega) (by omega)
    have hfF : fOk (F 10) (F 614 4) (F 615) := by rw [q10, q614, q615]; exact hf
    have eK : ∀ b k, wK F b k = wK D b k := fun b k => by unfold wK; rw [q614, q615]
    have eL : ∀ b k l, wL F b k l = wL D b k l := fun b k l => by unfold wL; rw [q614, q615]
    have w2 : cm_wr (j + 1) = j + 1 := cm_wr_id (by omega) (by omega)
    by_cases hj : j < D 9 2
    · obtain ⟨F', a, b⟩ := ev_wbL (D := F) (X := X) hzF hfF (by omega) (by rw [q9]; omega) (x := -1) (by omega) (fun _ => 0)
      have ek : ckd D t0 (D 15 9 + j) = 1 := by unfold ckd; rw [if_pos (by omega)]
      have el : cln D t0 (D 15 9 + j) = 0 := by unfold cln; rw [if_pos (by omega)]
      refine ⟨F', ?_, bkW_s hP j0 b ?_ ?_ (fun b c0 c1 => (hcl b c0 (by omega)).2) (fun i i0 i1 => by omega)⟩
      · show cm_x 9 92 [some (.inr (.inr 22)), some (.inr (.inr 15)), some (.inr (.inr 9)), some (.inl (y3)), some (.inl (y4)), some (.inl (t0)), some (.inl (y6)), some (.inl (y7)), some (.inl (y8)), some (.inl (m)), some (.inl (j))] [] (cm_hp F X) = cm_x 9 92 [some (.inr (.inr 22)), some (.inr (.inr 15)), some (.inr (.inr 9)), some (.inl (y3)), some (.inl (y4)), some (.inl (t0)), some (.inl (y6)), some (.inl (y7)), some (.inl (y8)), some (.inl (m)), some (.inl (j + 1))] [] (cm_hp F' X)
        rw [sg_X1_lay_92, if_pos j1, q9, if_pos hj, a, aft_n, sg_X1_lay_128, w2]
      · rw [ek]
        unfold wK
        rw [if_neg (fun z => z.2.1 rfl)]
      · rw [el]
        unfold wL
        rw [if_neg (fun z => z.2.1 rfl)]
    · have et : cm_wr (cm_wr (t0 + j) - F 9 2) = t0 + (D 15 9 + j - D 15 9 - D 9 2) := by
        rw [q9, cm_wr_id (x := t0 + j) (by omega) (by omega), cm_wr_id (by omega) (by omega)]
        omega
      have hok := ok (t0 + (D 15 9 + j - D 15 9 - D 9 2)) (by omega) (by omega)
      have okF : okD F (t0 + (D 15 9 + j - D 15 9 - D 9 2)) := by unfold okD; rw [q23, q24, q25, q17]; exact hok
      have el : lnC F (t0 + (D 15 9 + j - D 15 9 - D 9 2)) = lnC D (t0 + (D 15 9 + j - D 15 9 - D 9 2)) := by unfold lnC; rw [q23, q24, q17]
      have eg : ∀ i, tlC F (t0 + (D 15 9 + j - D 15 9 - D 9 2)) i = tlC D (t0 + (D 15 9 + j - D 15 9 - D 9 2)) i := fun i => by
        unfold tlC mpT
        rw [q23, q24, q25, q16, q19, q20, q21, p1, u1_ne (by omega), u1_ne (by omega)]
      obtain ⟨F', a, b⟩ := ev_wb (D := F) (X := X) hzF hfF (by omega) (by rw [q9]; omega) (x := t0 + (D 15 9 + j - D 15 9 - D 9 2)) (by omega) (by rw [q22]; omega) (by omega) okF
      refine ⟨F', ?_, bkW_s hP j0 b ?_ ?_ (fun b c0 c1 => (hcl b c0 (by omega)).2) (fun i _ _ => eg i)⟩
      · show cm_x 9 92 [some (.inr (.inr 22)), some (.inr (.inr 15)), some (.inr (.inr 9)), some (.inl (y3)), some (.inl (y4)), some (.inl (t0)), some (.inl (y6)), some (.inl (y7)), some (.inl (y8)), some (.inl (m)), some (.inl (j))] [] (cm_hp F X) = cm_x 9 92 [some (.inr (.inr 22)), some (.inr (.inr 15)), some (.inr (.inr 9)), some (.inl (y3)), some (.inl (y4)), some (.inl (t0)), some (.inl (y6)), some (.inl (y7)), some (.inl (y8)), some (.inl (m)), some (.inl (j + 1))] [] (cm_hp F' X)
        rw [sg_X1_lay_92, if_pos j1, if_neg (by rw [q9]; exact hj), et, a, aft_n, sg_X1_lay_128, w2]
      · rw [eK, q23]
        unfold ckd
        rw [if_neg (by omega)]
      · rw [eL, q23, el]
        unfold cln
        rw [if_neg (by omega)]) D m0 bkW_0
  exact ⟨F, R1, R2⟩
