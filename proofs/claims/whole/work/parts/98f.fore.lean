/-! how far a writing goes -/
variable {D E : Nat → Int → Int} {X : cm_X} {K B K' B' A F : Int → Int} {h pk t c : Int} {S : Nat → Int → Int} {r : Int → Int}
/-- k turns: from e on, d packets done of P; the end, and whether it was broken off -/
noncomputable def fw (rm sp : Int → Prop) (cost P : Int) : Nat → Int → Int → Int × Int
  | 0, e, _ => (e, 0)
  | k + 1, e, d => if d < P then (@ite _ (rm e) (Classical.propDecidable _) (fw rm sp cost P k (e + cost) (@ite _ (sp e) (Classical.propDecidable _) d (d + 1))) (e, 1)) else (e, 0)
theorem fw_s {rm sp : Int → Prop} {cost P e d : Int} {k : Nat} (h1 : d < P) (h2 : rm e) (h3 : sp e) : fw rm sp cost P (k + 1) e d = fw rm sp cost P k (e + cost) d := by
  rw [fw, if_pos h1, if_pos h2, if_pos h3]
theorem fw_g {rm sp : Int → Prop} {cost P e d : Int} {k : Nat} (h1 : d < P) (h2 : rm e) (h3 : ¬ sp e) : fw rm sp cost P (k + 1) e d = fw rm sp cost P k (e + cost) (d + 1) := by
  rw [fw, if_pos h1, if_pos h2, if_neg h3]
theorem fw_b {rm sp : Int → Prop} {cost P e d : Int} {k : Nat} (h1 : d < P) (h2 : ¬ rm e) : fw rm sp cost P (k + 1) e d = (e, 1) := by
  rw [fw, if_pos h1, if_neg h2]
theorem fw_d {rm sp : Int → Prop} {cost P e d : Int} {k : Nat} (h1 : ¬ d < P) : fw rm sp cost P k e d = (e, 0) := by
  cases k with
  | zero => rw [fw]
  | succ k => rw [fw, if_neg h1]
/-- turns enough: as many more change nothing -/
theorem fw_m {rm sp : Int → Prop} {cost P M : Int} (hc : 1 ≤ cost) (hm : ∀ e, rm e → e + cost ≤ M) : ∀ (k : Nat) (e d : Int), M ≤ e + k → fw rm sp cost P (k + 2) e d = fw rm sp cost P (k + 1) e d := by
  intro k
  induction k with
  | zero =>
    intro e d he
    by_cases h1 : d < P
    · have h2 : ¬ rm e := fun z => by have := hm e z; omega
      rw [fw_b h1 h2, fw_b h1 h2]
    · rw [fw_d h1, fw_d h1]
  | succ k ih =>
    intro e d he
    by_cases h1 : d < P
    · by_cases h2 : rm e
      · by_cases h3 : sp e
        · rw [fw_s h1 h2 h3, fw_s h1 h2 h3]; exact ih _ _ (by omega)
        · rw [fw_g h1 h2 h3, fw_g h1 h2 h3]; exact ih _ _ (by omega)
      · rw [fw_b h1 h2, fw_b h1 h2]
    · rw [fw_d h1, fw_d h1]
/-- with one more block faulty -/
def spX (D : Nat → Int → Int) (x hd : Int) : Prop := spr D hd ∨ (hd + D 9 2 ≤ x ∧ x < hd + D 9 2 + D 9 1)
noncomputable def fwD (D : Nat → Int → Int) (x P : Int) : Nat → Int → Int → Int × Int := fw (rm D) (spX D x) (D 9 2 + D 9 1) P
theorem ev_fs (hz : zOk D) (hf : fOk (D 10) (D 614 4) (D 615)) {e0 P x : Int} (hP : P ≤ 1000) (h4 : D 9 4 = 0) : ∀ (k : Nat) (e d : Int), k ≤ 400 → 0 ≤ e → e ≤ 1000 → 0 ≤ d → cm_x 30 14 [some (.inr (.inr 9)), some (.inl (e0)), some (.inl (P)), some (.inl (x)), some (.inl (e)), some (.inl (d)), some (.inl (400 - (k : Int))), none, none] [] (cm_hp D X) = some (.inl (some (.inl ((fwD D x P k e d).1))), cm_hp (cm_up D 9 4 (fwD D x P k e d).2) X) := by
  obtain ⟨z1, z2, z3, z4, z5⟩ := hz
  have same : cm_up D 9 4 0 = D := by
    rw [up_to_ua, ← h4, u1_id, ua_id]
  unfold fwD
  intro k
  induction k with
  | zero =>
    intro e d _ e0' e1 d0
    rw [sg_X2_foresee_14, if_neg (by omega), fw]
    dsimp only
    rw [same]
  | succ k ih =>
    intro e d hk e0' e1 d0
    rw [sg_X2_foresee_14, if_pos (by omega)]
    by_cases h1 : d < P
    · rw [if_pos h1, ev_room ⟨z1, z2, z3, z4, z5⟩ e0' e1, aft_v, sg_X2_foresee_34]
      by_cases h2 : rm D e
      · have hrm : e + (D 9 2 + D 9 1) + D 9 3 ≤ D 9 0 := h2
        have w1 : cm_wr (e + D 9 2) = e + D 9 2 := cm_wr_id (by omega) (by omega)
        have w2 : cm_wr (e + D 9 2 + D 9 1) = e + (D 9 2 + D 9 1) := by rw [cm_wr_id (by omega) (by omega)]; omega
        have w3 : cm_wr (d + 1) = d + 1 := cm_wr_id (by omega) (by omega)
        have w4 : cm_wr (400 - ((k + 1 : Nat) : Int) + 1) = 400 - (k : Int) := by rw [cm_wr_id (by omega) (by omega)]; omega
        rw [tv_t h2, if_neg (by omega), ev_spare ⟨z1, z2, z3, z4, z5⟩ hf e0' h2, aft_v, sg_X2_foresee_65, w1, w2, w3, w4]
        by_cases h3 : spX D x e
        · rw [fw_s h1 h2 h3, ← ih _ _ (by omega) (by omega) (by omega) d0]
          by_cases h5 : spr D e
          · rw [tv_t h5, if_neg (by omega)]
          · have h6 := h3.resolve_left h5
            rw [tv_f h5, if_pos rfl, if_neg (by omega), if_pos (by omega)]
        · have h5 : ¬ spr D e := fun z => h3 (Or.inl z)
          rw [fw_g h1 h2 h3, ← ih _ _ (by omega) (by omega) (by omega) (by omega), tv_f h5, if_pos rfl]
          by_cases h6 : x < e + D 9 2
          · rw [if_pos h6]
          · rw [if_neg h6, if_neg (fun z => h3 (Or.inr ⟨by omega, by omega⟩))]
      · rw [tv_f h2, if_pos rfl, fw_b h1 h2]
    · rw [if_neg h1, fw_d h1]
      dsimp only
      rw [same]
theorem ev_foresee (hz : zOk D) (hf : fOk (D 10) (D 614 4) (D 615)) {P x e : Int} (hP : P ≤ 1000) (h0 : 0 ≤ e) (h1 : e ≤ 1000) : cm_x 30 0 [some (.inr (.inr 9)), some (.inl (e)), some (.inl (P)), some (.inl (x)), none, none, none, none, none] [] (cm_hp D X) = some (.inl (some (.inl ((fwD D x P 400 e 0).1))), cm_hp (cm_up D 9 4 (fwD D x P 400 e 0).2) X) := by
  have hz' : zOk (cm_up D 9 4 0) := hz
  have hf' : fOk ((cm_up D 9 4 0) 10) ((cm_up D 9 4 0) 614 4) ((cm_up D 9 4 0) 615) := hf
  have := ev_fs (D := cm_up D 9 4 0) (X := X) (e0 := e) (x := x) hz' hf' hP rfl 400 e 0 (by omega) h0 h1 (by omega)
  have hh : fwD (cm_up D 9 4 0) x P 400 e 0 = fwD D x P 400 e 0 := rfl
  rw [hh, show ((400 : Int) - ((400 : Nat) : Int)) = 0 by omega] at this
  rw [sg_X2_foresee_0, this, up_to_ua, up_same, u1_u1, up_to_ua, ua_ua, ← up_to_ua]
