/-! apart; versions -/
variable {D E : Nat → Int → Int} {t h pk : Int} {K B : Int → Int}
def cst (D : Nat → Int → Int) (c : Int) : Int := cm_wr (pkB (D 9 1) c * cm_wr (D 9 2 + D 9 1))
theorem cst_b (hz : zOk D) {c : Int} (c0 : 1 ≤ c) (c1 : c ≤ 20) : 1 ≤ cst D c ∧ cst D c ≤ 400 := by
  obtain ⟨-, ⟨p0, p1⟩, ⟨r0, r1⟩, -⟩ := hz
  obtain ⟨-, q0, q1, q2, -⟩ := pkB_eq p0 p1 (show 0 ≤ c by omega) (by omega)
  have q2 := q2 c0
  have ew : cm_wr (D 9 2 + D 9 1) = D 9 2 + D 9 1 := cm_wr_id (by omega) (by omega)
  unfold cst
  rw [ew]
  have h1 : 0 < pkB (D 9 1) c * (D 9 2 + D 9 1) := Int.mul_pos (by omega) (by omega)
  have h2 : pkB (D 9 1) c * (D 9 2 + D 9 1) ≤ 20 * 20 := Int.mul_le_mul (by omega) (by omega) (by omega) (by omega)
  rw [cm_wr_id (by omega) (by omega)]
  omega
/-- apart: behind so many virtual blocks: whether the directory is still due, the sum -/
def apF (D : Nat → Int → Int) : Nat → Int × Int
  | 0 => (cDir D, 0)
  | k + 1 => if cNm D (k + 1) = -1 ∨ D 18 (cNm D (k + 1)) = 0 then apF D k else (0, cm_wr ((apF D k).2 + cst D (cNs D (cNm D (k + 1)) + 2 + (apF D k).1)))
theorem cNm_b (D : Nat → Int → Int) (v : Int) : cNm D v = -1 ∨ ((0 ≤ cNm D v ∧ cNm D v < 12) ∧ D 16 (cNm D v) = v) := by
  unfold cNm
  rcases fnd_spec (p := fun n => decide (D 16 n = v)) (d := -1) (k := 12) (i := 0) with ⟨j, h1, h2, h3, h4, -⟩ | ⟨h1, -⟩
  · rw [h4]; exact Or.inr ⟨⟨h1, by omega⟩, by simpa using h3⟩
  · exact Or.inl h1
theorem cNm_f {v : Int} (hn : nS (stt D 15)) {n : Int} (n0 : 0 ≤ n) (n1 : n < 12) (hv : D 16 n = v) (h0 : v ≠ 0) : cNm D v = n := by
  rcases cNm_b D v with h | ⟨⟨h1, h2⟩, h3⟩
  · unfold cNm at h
    rcases fnd_spec (p := fun n => decide (D 16 n = v)) (d := -1) (k := 12) (i := 0) with ⟨j, h1, h2, h3, h4, -⟩ | ⟨-, h2⟩
    · omega
    · have := h2 n n0 (by omega)
      simp [hv] at this
  · exact hn.2.2 _ _ h1 h2 n0 n1 (by show D 16 _ = D 16 _; rw [h3, hv]) (by show D 16 _ ≠ 0; rw [h3]; exact h0)
theorem apF_b (hz : zOk D) (hn : nS (stt D 15)) : ∀ k : Nat, k ≤ 12 → ((apF D k).1 = cDir D ∧ (apF D k).2 = 0 ∧ ∀ v : Int, 1 ≤ v → v ≤ k → (cNm D v = -1 ∨ D 18 (cNm D v) = 0)) ∨ ((apF D k).1 = 0 ∧ 1 ≤ (apF D k).2 ∧ (apF D k).2 ≤ 400 * k) := by
  have hl := eq_lok hn
  have hd : 0 ≤ cDir D ∧ cDir D ≤ 1 := by unfold cDir; by_cases h : D 15 6 = 0 <;> simp [h]
  intro k
  induction k with
  | zero => intro _; exact Or.inl ⟨rfl, rfl, fun v a b => by omega⟩
  | succ k ih =>
    intro hk
    have ih := ih (by omega)
    have ez : apF D (k + 1) = if cNm D (k + 1) = -1 ∨ D 18 (cNm D (k + 1)) = 0 then apF D k else (0, cm_wr ((apF D k).2 + cst D (cNs D (cNm D (k + 1)) + 2 + (apF D k).1))) := rfl
    rw [ez]
    by_cases hc : cNm D (k + 1) = -1 ∨ D 18 (cNm D (k + 1)) = 0
    · rw [if_pos hc]
      rcases ih with ⟨i1, i2, i3⟩ | ⟨i1, i2, i3⟩
      · refine Or.inl ⟨i1, i2, fun v a b => ?_⟩
        by_cases hv : v = k + 1
        · rw [hv]; exact hc
        · exact i3 v a (by omega)
      · exact Or.inr ⟨i1, i2, by omega⟩
    · rw [if_neg hc]
      have hm := (cNm_b D (k + 1)).resolve_left (fun z => hc (Or.inl z))
      have hs := cNs_b hl hm.1.1 hm.1.2
      have hb := cst_b hz (c := cNs D (cNm D (k + 1)) + 2 + (apF D k).1) (by omega) (by omega)
      refine Or.inr ⟨rfl, ?_, ?_⟩
      · show 1 ≤ cm_wr ((apF D k).2 + cst D (cNs D (cNm D (k + 1)) + 2 + (apF D k).1))
        rw [cm_wr_id (by omega) (by omega)]; omega
      · show cm_wr ((apF D k).2 + cst D (cNs D (cNm D (k + 1)) + 2 + (apF D k).1)) ≤ _
        rw [cm_wr_id (by omega) (by omega)]; omega
theorem ev_apart {X : cm_X} (hz : zOk D) (hn : nS (stt D 15)) : cm_x 144 32 [some (.inr (.inr 0)), some (.inl (cDir D)), some (.inl (0)), some (.inl (1)), none] [] (cm_hp D X) = cm_x 144 32 [some (.inr (.inr 0)), some (.inl ((apF D 12).1)), some (.inl ((apF D 12).2)), some (.inl (13)), none] [] (cm_hp D X) := by
  have hl := eq_lok hn
  have hd : 0 ≤ cDir D ∧ cDir D ≤ 1 := by unfold cDir; by_cases h : D 15 6 = 0 <;> simp [h]
  exact lp_fn (n := 12) (X := fun v (s : Int × Int) => cm_x 144 32 [some (.inr (.inr 0)), some (.inl (s.1)), some (.inl (s.2)), some (.inl (v + 1)), none] [] (cm_hp D X)) (F := fun k => apF D k) (fun k hk => by
    show cm_x 144 32 [some (.inr (.inr 0)), some (.inl ((apF D k).1)), some (.inl ((apF D k).2)), some (.inl ((k : Int) + 1)), none] [] (cm_hp D X) = cm_x 144 32 [some (.inr (.inr 0)), some (.inl ((apF D (k + 1)).1)), some (.inl ((apF D (k + 1)).2)), some (.inl ((k : Int) + 1 + 1)), none] [] (cm_hp D X)
    have hb := apF_b hz hn k (by omega)
    have e : cm_wr ((k : Int) + 1 + 1) = (k : Int) + 1 + 1 := cm_wr_id (by omega) (by omega)
    have ez : apF D (k + 1) = if cNm D (k + 1) = -1 ∨ D 18 (cNm D (k + 1)) = 0 then apF D k else (0, cm_wr ((apF D k).2 + cst D (cNs D (cNm D (k + 1)) + 2 + (apF D k).1))) := rfl
    rw [sg_X8_apart_32, if_pos (by omega), ev_nameOf, aft_v, sg_X8_apart_46, e, ez]
    by_cases h1 : cNm D (k + 1) = -1
    · rw [if_pos h1, if_pos (Or.inl h1)]
    · have hm := (cNm_b D (k + 1)).resolve_left h1
      rw [if_neg h1, ck_t hm.1]
      by_cases h2 : D 18 (cNm D (k + 1)) = 0
      · rw [if_pos h2, if_pos (Or.inr h2)]
      · have hs := cNs_b hl hm.1.1 hm.1.2
        have e2 : cm_wr (cm_wr (cm_wr (cNs D (cNm D (k + 1)) + 1) + (apF D k).1) + 1) = cNs D (cNm D (k + 1)) + 2 + (apF D k).1 := by
          rw [cm_wr_id (x := cNs D (cNm D (k + 1)) + 1) (by omega) (by omega), cm_wr_id (x := cNs D (cNm D (k + 1)) + 1 + (apF D k).1) (by omega) (by omega), cm_wr_id (by omega) (by omega)]
          omega
        rw [if_neg h2, if_neg (fun z => z.elim h1 h2), ev_newCells hl hm.1.1 hm.1.2, aft_v, sg_X8_apart_81]
        show cm_aft 144 87 90 [some (.inr (.inr 0)), some (.inl ((apF D k).1)), some (.inl ((apF D k).2)), some (.inl ((k : Int) + 1)), some (.inl (cNm D (k + 1)))] [(.inl (apF D k).2)] (cm_x 27 0 [some (.inr (.inr 9)), some (.inl (cm_wr (cm_wr (cm_wr (cNs D (cNm D (k + 1)) + 1) + (apF D k).1) + 1)))] [] (cm_hp D X)) = _
        rw [e2, ev_costOf hz, aft_v, sg_X8_apart_90, e]
        rfl)
theorem ev_mApart {X : cm_X} (hc : Rc D) : cm_x 262 27 [some (.inr (.inr 613)), some (.inl (0)), some (.inl (cDir D)), some (.inl (1)), none] [] (cm_hp (cm_up D 613 0 0) X) = cm_x 262 27 [some (.inr (.inr 613)), some (.inl ((apF D 12).2)), some (.inl ((apF D 12).1)), some (.inl (13)), none] [] (cm_hp (cm_up D 613 0 0) X) := by
  have hn := hc.2.2.2.2.2.1
  have hr := hc.2.2.2.2.1
  have hz := hc.1.1
  have hl := eq_lok hn
  have hmo : mOk ((cm_up D 613 0 0) 617) := mo_617 hc
  have hd : 0 ≤ cDir D ∧ cDir D ≤ 1 := by unfold cDir; by_cases h : D 15 6 = 0 <;> simp [h]
  have epk : (cm_up D 613 0 0) 614 1 = D 9 1 := hc.2.1 1 (by omega) (by omega)
  have ern : (cm_up D 613 0 0) 614 2 = D 9 2 := hc.2.1 2 (by omega) (by omega)
  exact lp_fn (n := 12) (X := fun v (s : Int × Int) => cm_x 262 27 [some (.inr (.inr 613)), some (.inl (s.2)), some (.inl (s.1)), some (.inl (v + 1)), none] [] (cm_hp (cm_up D 613 0 0) X)) (F := fun k => apF D k) (fun k hk => by
    show cm_x 262 27 [some (.inr (.inr 613)), some (.inl ((apF D k).2)), some (.inl ((apF D k).1)), some (.inl ((k : Int) + 1)), none] [] (cm_hp (cm_up D 613 0 0) X) = cm_x 262 27 [some (.inr (.inr 613)), some (.inl ((apF D (k + 1)).2)), some (.inl ((apF D (k + 1)).1)), some (.inl ((k : Int) + 1 + 1)), none] [] (cm_hp (cm_up D 613 0 0) X)
    have hb := apF_b hz hn k (by omega)
    have e : cm_wr ((k : Int) + 1 + 1) = (k : Int) + 1 + 1 := cm_wr_id (by omega) (by omega)
    have en : mNm ((cm_up D 613 0 0) 617) ((k : Int) + 1) = cNm D (k + 1) := eq_nm hr hn (by omega)
    have ez : apF D (k + 1) = if cNm D (k + 1) = -1 ∨ D 18 (cNm D (k + 1)) = 0 then apF D k else (0, cm_wr ((apF D k).2 + cst D (cNs D (cNm D (k + 1)) + 2 + (apF D k).1))) := rfl
    rw [sg_X9_apart_27, if_pos (by omega), ev_mNameOf, en, aft_v, sg_X9_apart_38, e, ez]
    by_cases h1 : cNm D (k + 1) = -1
    · rw [if_pos h1, if_pos (Or.inl h1)]
    · have hm := (cNm_b D (k + 1)).resolve_left h1
      have e24 : cm_wr (24 + cNm D (k + 1)) = 24 + cNm D (k + 1) := cm_wr_id (by omega) (by omega)
      have ec : (cm_up D 613 0 0) 617 (24 + cNm D (k + 1)) = D 18 (cNm D (k + 1)) := (hr.1 _ hm.1.1 hm.1.2).2.2
      rw [if_neg h1, e24, ck_t (by omega), ec]
      by_cases h2 : D 18 (cNm D (k + 1)) = 0
      · rw [if_pos h2, if_pos (Or.inr h2)]
      · have hs := cNs_b hl hm.1.1 hm.1.2
        have es : mNs ((cm_up D 613 0 0) 617) (cNm D (k + 1)) = cNs D (cNm D (k + 1)) := eq_ns hr hn hm.1.1 hm.1.2
        have e2 : cm_wr (cm_wr (cNs D (cNm D (k + 1)) + 2) + (apF D k).1) = cNs D (cNm D (k + 1)) + 2 + (apF D k).1 := by
          rw [cm_wr_id (x := cNs D (cNm D (k + 1)) + 2) (by omega) (by omega), cm_wr_id (by omega) (by omega)]
        rw [if_neg h2, if_neg (fun z => z.elim h1 h2), ev_mNewCells hmo hm.1.1 hm.1.2, aft_v, es, sg_X9_apart_70, e2, epk, ev_mCost hz.2.1.1, aft_v, sg_X9_apart_83, e, ern]
        rfl)
theorem q_apart (hR : R D t) (X : cm_X) : MM t D X (fun H => cm_x 144 0 [some (.inr (.inr 0)), none, none, none, none] [] H) (fun H => cm_x 262 0 [some (.inr (.inr 613)), none, none, none, none] [] H) := by
  have hc := hR.1
  have hr := hc.2.2.2.2.1
  have hn := hc.2.2.2.2.2.1
  have hz := hc.1.1
  have ea : mAny ((cm_up D 613 0 0) 617) = cAny D := eq_any hr hn
  have epk : (cm_up D 613 0 0) 614 1 = D 9 1 := hc.2.1 1 (by omega) (by omega)
  have ern : (cm_up D 613 0 0) 614 2 = D 9 2 := hc.2.1 2 (by omega) (by omega)
  have e241 : (cm_up D 613 0 0) 617 241 = cDir D := by
    show D 617 241 = _
    have h1 : D 617 241 = D 15 6 := hr.2.2.2.1
    have h2 : D 15 6 = 0 ∨ D 15 6 = 1 := hn.1
    unfold cDir
    rw [h1]
    rcases h2 with h2 | h2
    · rw [if_pos h2, h2]
    · rw [if_neg (by omega), h2]
  by_cases ha : cAny D = 0
  · refine MM_s (v := 0) hR (fun X => ?_) (fun X => ?_)
    · show cm_x 144 0 [some (.inr (.inr 0)), none, none, none, none] [] (cm_hp D X) = _
      rw [sg_X8_apart_0, ev_any, aft_v, sg_X8_apart_7, if_pos ha]
    · show cm_x 262 0 [some (.inr (.inr 613)), none, none, none, none] [] (cm_hp D X) = _
      rw [sg_X9_apart_0, ev_mAny, ea, aft_v, sg_X9_apart_9, if_pos ha]
  · have hb := apF_b hz hn 12 (by omega)
    have h2b := cst_b hz (c := 2) (by omega) (by omega)
    have ec2 : cm_wr (pkB (D 9 1) 2 * cm_wr (D 9 2 + D 9 1)) = cst D 2 := rfl
    have hdir : (apF D 12).2 = 0 → cDir D = 1 := by
      intro h0
      rcases hb with ⟨b1, b2, b3⟩ | ⟨b1, b2, b3⟩
      · unfold cDir
        by_cases hd : D 15 6 = 0
        · exfalso
          apply ha
          unfold cAny
          rw [if_pos hd, if_neg]
          rw [smw_pos (fun i _ _ => by unfold cCh; by_cases h : D 18 i = 0 <;> simp [h]) (by omega)]
          rintro ⟨n, n0, n1, n2⟩
          have n1 : n < 12 := by omega
          have hch : D 18 n ≠ 0 := by
            intro hz
            unfold cCh at n2
            rw [if_pos hz] at n2
            omega
          have hv : D 16 n ≠ 0 := fun hz => hch ((hn.2.1 n n0 n1).2.2.2 hz).2
          have hvb : 0 ≤ D 16 n ∧ D 16 n ≤ 12 := (hn.2.1 n n0 n1).1
          have hf := cNm_f hn n0 n1 rfl hv
          rcases b3 (D 16 n) (by omega) (by omega) with z | z
          · omega
          · rw [hf] at z; exact hch z
        · rw [if_neg hd]
      · omega
    have hcl : ∀ X, cm_x 144 0 [some (.inr (.inr 0)), none, none, none, none] [] (cm_hp D X) = cm_x 144 32 [some (.inr (.inr 0)), some (.inl ((apF D 12).1)), some (.inl ((apF D 12).2)), some (.inl (13)), none] [] (cm_hp D X) := fun X => by
      rw [← ev_apart hz hn, sg_X8_apart_0, ev_any, aft_v, sg_X8_apart_7, if_neg ha]
      unfold cDir
      by_cases hd : D 15 6 = 0
      · rw [if_pos hd, if_pos hd]
      · rw [if_neg hd, if_neg hd]
    have hml : ∀ X, cm_x 262 0 [some (.inr (.inr 613)), none, none, none, none] [] (cm_hp D X) = cm_x 262 27 [some (.inr (.inr 613)), some (.inl ((apF D 12).2)), some (.inl ((apF D 12).1)), some (.inl (13)), none] [] (cm_hp (cm_up D 613 0 0) X) := fun X => by
      rw [← ev_mApart hc, sg_X9_apart_0, ev_mAny, ea, aft_v, sg_X9_apart_9, if_neg ha, e241]
    by_cases h0 : (apF D 12).2 = 0
    · have hd := hdir h0
      have e1 : (apF D 12).1 = 1 := by
        rcases hb with ⟨b1, -, -⟩ | ⟨-, b2, -⟩
        · rw [b1, hd]
        · omega
      have e11 : cm_wr ((1 : Int) + 1) = 2 := by decide
      refine MM_s (v := cst D 2) hR (fun X => ?_) (fun X => ?_)
      · show cm_x 144 0 [some (.inr (.inr 0)), none, none, none, none] [] (cm_hp D X) = _
        rw [hcl, sg_X8_apart_32, if_neg (by omega), if_pos h0, e1, e11, ev_costOf hz, aft_v, sg_X8_apart_114, ec2]
      · show cm_x 262 0 [some (.inr (.inr 613)), none, none, none, none] [] (cm_hp D X) = _
        rw [hml, sg_X9_apart_27, if_neg (by omega), if_pos e1, epk, ev_mCost hz.2.1.1, aft_v, sg_X9_apart_110, h0, ern, ec2, Int.zero_add, cm_wr_id (by omega) (by omega)]
    · have e1 : (apF D 12).1 = 0 := by
        rcases hb with ⟨-, b1, -⟩ | ⟨b1, -, -⟩
        · exact absurd b1 h0
        · exact b1
      refine MM_s (v := (apF D 12).2) hR (fun X => ?_) (fun X => ?_)
      · show cm_x 144 0 [some (.inr (.inr 0)), none, none, none, none] [] (cm_hp D X) = _
        rw [hcl, sg_X8_apart_32, if_neg (by omega), if_neg h0]
      · show cm_x 262 0 [some (.inr (.inr 613)), none, none, none, none] [] (cm_hp D X) = _
        rw [hml, sg_X9_apart_27, if_neg (by omega), if_neg (by omega)]
