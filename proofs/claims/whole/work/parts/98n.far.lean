/-! how far a writing goes: the reference -/
variable {D E : Nat → Int → Int} {X : cm_X} {K B K' B' A : Int → Int} {h pk c : Int} {S : Nat → Int → Int} {r : Int → Int}
def rmE (E : Nat → Int → Int) (e : Int) : Prop := e + (E 614 2 + E 614 1) + E 614 3 ≤ E 614 0
def spE (E : Nat → Int → Int) (e : Int) : Prop := ∃ b, e + E 614 2 ≤ b ∧ b < e + E 614 2 + E 614 1 ∧ fltX E b
/-- what a writing leaves as it was -/
def wfr (E F : Nat → Int → Int) : Prop := (∀ j, j ≠ 27 → F 613 j = E 613 j) ∧ (∀ j, j ≠ 244 → j ≠ 245 → F 617 j = E 617 j) ∧ (∀ b, b < E 617 244 → F 619 b = E 619 b) ∧ (∀ y, y < 15 * E 617 244 → F 620 y = E 620 y) ∧ E 617 244 ≤ F 617 244 ∧ F 613 27 - F 617 244 = E 613 27 - E 617 244 ∧ ∀ a : Nat, a ≠ 613 → a ≠ 617 → a ≠ 619 → a ≠ 620 → a ≠ 624 → F a = E a
theorem wfr_rf : wfr E E := ⟨fun _ _ => rfl, fun _ _ _ => rfl, fun _ _ => rfl, fun _ _ => rfl, Int.le_refl _, rfl, fun _ _ _ _ _ _ => rfl⟩
theorem wfr_tr {F G : Nat → Int → Int} (a : wfr E F) (b : wfr F G) : wfr E G := by
  obtain ⟨a1, a2, a3, a4, a5, a6, a7⟩ := a
  obtain ⟨b1, b2, b3, b4, b5, b6, b7⟩ := b
  exact ⟨fun j hj => (b1 j hj).trans (a1 j hj), fun j h1 h2 => (b2 j h1 h2).trans (a2 j h1 h2), fun y hy => (b3 y (by omega)).trans (a3 y hy), fun y hy => (b4 y (by omega)).trans (a4 y hy), by omega, by omega, fun x x1 x2 x3 x4 x5 => (b7 x x1 x2 x3 x4 x5).trans (a7 x x1 x2 x3 x4 x5)⟩
/-- what a writing asks -/
def wOk (E : Nat → Int → Int) : Prop := (40 ≤ E 614 0 ∧ E 614 0 ≤ 400) ∧ (2 ≤ E 614 1 ∧ E 614 1 ≤ 16) ∧ (0 ≤ E 614 2 ∧ E 614 2 ≤ 4) ∧ (0 ≤ E 614 3 ∧ E 614 3 ≤ 8) ∧ (0 ≤ E 614 4 ∧ E 614 4 ≤ 12) ∧ (0 ≤ E 613 25 ∧ E 613 25 ≤ 126) ∧ (E 614 1 * E 613 26 ≤ 126) ∧ ∀ t, 0 ≤ t → t < E 614 1 * E 613 26 → okT E t
theorem wOk_fr {F : Nat → Int → Int} (hw : wfr E F) (ho : wOk E) : wOk F := by
  obtain ⟨a1, a2, -, -, -, -, a7⟩ := hw
  obtain ⟨o1, o2, o3, o4, o5, o6, o7, o8⟩ := ho
  have e14 : F 614 = E 614 := a7 614 (by omega) (by omega) (by omega) (by omega) (by omega)
  have e22 : F 622 = E 622 := a7 622 (by omega) (by omega) (by omega) (by omega) (by omega)
  have e23 : F 623 = E 623 := a7 623 (by omega) (by omega) (by omega) (by omega) (by omega)
  unfold wOk
  rw [e14, a1 25 (by omega), a1 26 (by omega)]
  refine ⟨o1, o2, o3, o4, o5, o6, o7, fun t t0 t1 => ?_⟩
  obtain ⟨k1, k2, k3⟩ := o8 t t0 t1
  unfold okT
  rw [e22, e23]
  refine ⟨k1, k2, fun z => ?_⟩
  obtain ⟨z1, z2⟩ := k3 z
  rw [a2 _ (by omega) (by omega)]
  exact ⟨z1, z2⟩
theorem pkt_fr {F : Nat → Int → Int} {t0 m1 m2 s : Int} {f : Int → Int} (hp : pktW E F t0 m1 m2 s f) (m10 : 0 ≤ m1) (m20 : 0 ≤ m2) : wfr E F := by
  obtain ⟨p1, p2, p3, p4, -, -, -, p8, -, p10⟩ := hp
  have e : F 617 244 = E 617 244 + m1 + m2 := by rw [p1, u1_eq]
  exact ⟨p3, fun j h1 _ => by rw [p1, u1_ne h1], fun b hb => by rw [p4, if_neg (by omega), if_neg (by omega)], fun y hy => p8 y (by omega), by omega, by omega, p10⟩
theorem ev_wA : ∀ (k : Nat) (E : Nat → Int → Int) (p : Int), wOk E → 0 ≤ p → 0 ≤ E 613 27 → E 613 27 ≤ E 617 244 → E 617 244 ≤ 400 → E 614 0 ≤ E 617 244 + k → ∃ br F, cm_x 209 21 [some (.inr (.inr 613)), some (.inl (1000000)), some (.inl (E 614 2 + E 614 1)), some (.inl (p)), none, none] [] (cm_hp E X) = some (.inl (some (.inl (br))), cm_hp F X) ∧ fw (rmE E) (spE E) (E 614 2 + E 614 1) (E 613 26) (k + 1) (E 617 244) p = (F 617 244, br) ∧ wfr E F := by
  intro k
  induction k with
  | zero =>
    intro E p ho p0 w0 w1 h4 hk
    obtain ⟨o1, o2, o3, o4, o5, o6, o7, o8⟩ := ho
    by_cases hp : p < E 613 26
    · have hrm : ¬ rmE E (E 617 244) := fun z => by unfold rmE at z; omega
      refine ⟨1, E, ?_, by rw [fw_b hp hrm], wfr_rf⟩
      unfold rmE at hrm
      rw [sg_X9_writeAll_21, if_pos hp, sg_X9_writeAll_32, if_neg (by omega), ev_tornN (by omega), aft_v, sg_X9_writeAll_42, if_pos rfl, cm_wr_id (x := E 617 244 + (E 614 2 + E 614 1)) (by omega) (by omega), cm_wr_id (by omega) (by omega), if_pos (by omega)]
    · refine ⟨0, E, ?_, by rw [fw_d hp], wfr_rf⟩
      rw [sg_X9_writeAll_21, if_neg hp]
  | succ k ih =>
    intro E p ho p0 w0 w1 h4 hk
    have ho' := ho
    obtain ⟨o1, o2, o3, o4, o5, o6, o7, o8⟩ := ho
    by_cases hp : p < E 613 26
    · by_cases hrm : rmE E (E 617 244)
      · have hrm' : E 617 244 + (E 614 2 + E 614 1) + E 614 3 ≤ E 614 0 := hrm
        have hpm : E 614 1 * p + E 614 1 ≤ E 614 1 * E 613 26 := by
          have h1 : E 614 1 * (p + 1) ≤ E 614 1 * E 613 26 := Int.mul_le_mul_of_nonneg_left (by omega) (by omega)
          rw [Int.mul_add, Int.mul_one] at h1
          exact h1
        have hp0 : 0 ≤ E 614 1 * p := Int.mul_nonneg (by omega) p0
        obtain ⟨s, G, f, L, -, P⟩ := ev_packet (E := E) (X := X) (p := p) (mo := 1000000) (t0 := E 614 1 * p) (m1 := E 614 2) (m2 := E 614 1) rfl hp0 (by omega) o3.1 (by omega) (by omega) (by omega) w0 (by omega) o3.1 (Int.le_refl _) (by omega) (Int.le_refl _) (by omega) (fun z => by omega) (fun z => by omega) o6.1 o6.2 o5.1 o5.2 (fun j j0 j1 => o8 _ (by omega) (by omega))
        have hfr := pkt_fr P o3.1 (by omega)
        have hs := P.2.2.2.2.2.1
        have hs01 := P.2.2.2.2.1
        have e244 : G 617 244 = E 617 244 + (E 614 2 + E 614 1) := by rw [P.1, u1_eq]; omega
        have e27 : G 613 27 = E 613 27 + (E 614 2 + E 614 1) := by rw [P.2.1]; omega
        have e14 : G 614 = E 614 := P.2.2.2.2.2.2.2.2.2 614 (by omega) (by omega) (by omega) (by omega) (by omega)
        have e15 : G 615 = E 615 := P.2.2.2.2.2.2.2.2.2 615 (by omega) (by omega) (by omega) (by omega) (by omega)
        have e26 : G 613 26 = E 613 26 := hfr.1 26 (by omega)
        have e21 : G 613 21 = E 613 21 := hfr.1 21 (by omega)
        -- the counted one
        have up : ∀ u : Int, wfr E (cm_up G 617 245 u) := fun u => by
          obtain ⟨a1, a2, a3, a4, a5, a6, a7⟩ := hfr
          refine ⟨a1, fun j h1 h2 => ?_, a3, a4, a5, a6, fun a b1 b2 b3 b4 b5 => ?_⟩
          · rw [up_same, u1_ne h2]; exact a2 j h1 h2
          · rw [up_row b2]; exact a7 a b1 b2 b3 b4 b5
        have go : ∀ (u q : Int), 0 ≤ q → ∃ br F, cm_x 209 21 [some (.inr (.inr 613)), some (.inl (1000000)), some (.inl (E 614 2 + E 614 1)), some (.inl (q)), none, none] [] (cm_hp (cm_up G 617 245 u) X) = some (.inl (some (.inl (br))), cm_hp F X) ∧ fw (rmE E) (spE E) (E 614 2 + E 614 1) (E 613 26) (k + 1) (E 617 244 + (E 614 2 + E 614 1)) q = (F 617 244, br) ∧ wfr E F := fun u q q0 => by
          have x14 : (cm_up G 617 245 u) 614 = E 614 := e14
          have x244 : (cm_up G 617 245 u) 617 244 = E 617 244 + (E 614 2 + E 614 1) := e244
          have x27 : (cm_up G 617 245 u) 613 27 = E 613 27 + (E 614 2 + E 614 1) := e27
          have x26 : (cm_up G 617 245 u) 613 26 = E 613 26 := e26
          have xr : rmE (cm_up G 617 245 u) = rmE E := by unfold rmE; rw [x14]
          have xs : spE (cm_up G 617 245 u) = spE E := by
            have z : ∀ b, fltX (cm_up G 617 245 u) b = fltX E b := fun b => by
              show (b = G 613 21 ∨ flt (G 614 4) (G 615) b) = _
              rw [e21, e14, e15]; rfl
            unfold spE
            rw [x14]
            funext e
            congr 1
            funext b
            rw [z b]
          obtain ⟨br, F, i1, i2, i3⟩ := ih (cm_up G 617 245 u) q (wOk_fr (up u) ho') q0 (by rw [x27]; omega) (by rw [x27, x244]; omega) (by rw [x244]; omega) (by rw [x14, x244]; omega)
          rw [x14] at i1
          rw [xr, xs, x14, x26, x244] at i2
          exact ⟨br, F, i1, i2, wfr_tr (up u) i3⟩
        have head : cm_x 209 21 [some (.inr (.inr 613)), some (.inl (1000000)), some (.inl (E 614 2 + E 614 1)), some (.inl (p)), none, none] [] (cm_hp E X) = cm_x 209 89 [some (.inr (.inr 613)), some (.inl (1000000)), some (.inl (E 614 2 + E 614 1)), some (.inl (p)), some (.inl (1)), some (.inl (E 613 27 + (E 614 2 + E 614 1)))] [.inl s] (cm_hp G X) := by
          rw [sg_X9_writeAll_21, if_pos hp, sg_X9_writeAll_32, if_neg (by omega), ev_tornN (by omega), aft_v, sg_X9_writeAll_42, if_pos rfl, cm_wr_id (x := E 617 244 + (E 614 2 + E 614 1)) (by omega) (by omega), cm_wr_id (x := E 617 244 + (E 614 2 + E 614 1) + E 614 3) (by omega) (by omega), if_neg (by omega), cm_wr_id (x := E 613 27 + (E 614 2 + E 614 1)) (by omega) (by omega), L, aft_v]
        have hsp : s = 1 ↔ spE E (E 617 244) := hs
        rw [head, sg_X9_writeAll_89, if_neg (by omega)]
        by_cases hs0 : s = 0
        · have hns : ¬ spE E (E 617 244) := fun z => by have := hsp.mpr z; omega
          obtain ⟨br, F, i1, i2, i3⟩ := go (cm_wr (G 617 245 + 0)) (p + 1) (by omega)
          refine ⟨br, F, ?_, by rw [fw_g hp hrm hns]; exact i2, i3⟩
          have hpb : E 613 26 ≤ 126 := by
            have h1 : 1 * E 613 26 ≤ E 614 1 * E 613 26 := Int.mul_le_mul_of_nonneg_right (by omega) (by omega)
            omega
          rw [if_pos hs0, sg_X9_writeAll_32, if_pos hs0, cm_wr_id (x := p + 1) (by omega) (by omega)]
          exact i1
        · have hs1 : s = 1 := by omega
          obtain ⟨br, F, i1, i2, i3⟩ := go (cm_wr (G 617 245 + 1)) p p0
          refine ⟨br, F, ?_, by rw [fw_s hp hrm (hsp.mp hs1)]; exact i2, i3⟩
          rw [if_neg hs0, hs1, ← i1, sg_X9_writeAll_21]
          have x26 : (cm_up G 617 245 (cm_wr (G 617 245 + 1))) 613 26 = E 613 26 := e26
          rw [x26, if_pos hp]
      · refine ⟨1, E, ?_, by rw [fw_b hp hrm], wfr_rf⟩
        unfold rmE at hrm
        rw [sg_X9_writeAll_21, if_pos hp, sg_X9_writeAll_32, if_neg (by omega), ev_tornN (by omega), aft_v, sg_X9_writeAll_42, if_pos rfl, cm_wr_id (x := E 617 244 + (E 614 2 + E 614 1)) (by omega) (by omega), cm_wr_id (by omega) (by omega), if_pos (by omega)]
    · refine ⟨0, E, ?_, by rw [fw_d hp], wfr_rf⟩
      rw [sg_X9_writeAll_21, if_neg hp]
