/-! one block of a writing: the class -/
variable {D E : Nat → Int → Int} {X : cm_X} {K B K' B' A : Int → Int} {h pk c t : Int} {S : Nat → Int → Int} {r : Int → Int}
def wbQ (D D' : Nat → Int → Int) (k l : Int) (g : Int → Int) : Prop := D' 11 = cm_u1 (D 11) (D 15 9) (wK D (D 15 9) k) ∧ D' 12 = cm_u1 (D 12) (D 15 9) (wL D (D 15 9) k l) ∧ (∀ y, D' 13 y = if D 15 9 * 15 ≤ y ∧ y < D 15 9 * 15 + wL D (D 15 9) k l then g (y - D 15 9 * 15) else D 13 y) ∧ D' 15 = cm_u1 (D 15) 9 (D 15 9 + 1) ∧ ∀ a : Nat, a ≠ 11 → a ≠ 12 → a ≠ 13 → a ≠ 15 → D' a = D a
theorem wL_b {b k l : Int} (l0 : 0 ≤ l) : 0 ≤ wL D b k l ∧ wL D b k l ≤ l := by
  unfold wL
  split
  · omega
  · omega
theorem wb_fin {F : Nat → Int → Int} {k l m : Int} {g : Int → Int} (hF : tld (cm_up (cm_up D 11 (D 15 9) (wK D (D 15 9) k)) 12 (D 15 9) (wL D (D 15 9) k l)) F (D 15 9) m g) (hm : wL D (D 15 9) k l ≤ m) : wbQ D (cm_up F 15 9 (D 15 9 + 1)) k l g := by
  obtain ⟨p1, p2⟩ := hF
  have q12 : (cm_up (cm_up D 11 (D 15 9) (wK D (D 15 9) k)) 12 (D 15 9) (wL D (D 15 9) k l)) 12 (D 15 9) = wL D (D 15 9) k l := by rw [up_same, u1_eq]
  rw [q12] at p1
  refine ⟨?_, ?_, fun y => ?_, ?_, fun a a1 a2 a3 a4 => ?_⟩
  · rw [up_row (by omega), p2 11 (by omega), up_row (by omega), up_same]
  · rw [up_row (by omega), p2 12 (by omega), up_same, up_row (by omega)]
  · rw [up_row (by omega), p1 y]
    by_cases h2 : D 15 9 * 15 ≤ y ∧ y < D 15 9 * 15 + wL D (D 15 9) k l
    · rw [if_pos h2, if_pos (by omega)]
    · rw [if_neg h2, if_neg (by omega)]
      rfl
  · rw [up_same, p2 15 (by omega)]; rfl
  · rw [up_row a4, p2 a a3, up_row a2, up_row a1]
/-- a link -/
theorem ev_wbL (hz : zOk D) (hf : fOk (D 10) (D 614 4) (D 615)) (b0 : 0 ≤ D 15 9) (b1 : D 15 9 < D 9 0) {x : Int} (hx : x < 0) (g : Int → Int) : ∃ F, cm_x 11 0 [some (.inr (.inr 22)), some (.inr (.inr 15)), some (.inr (.inr 9)), some (.inl (x)), none] [] (cm_hp D X) = some (.inl none, cm_hp F X) ∧ wbQ D F 1 0 g := by
  have z1 := hz.1
  have q15 : (cm_up (cm_up D 11 (D 15 9) (wK D (D 15 9) 1)) 12 (D 15 9) (wL D (D 15 9) 1 0)) 15 9 = D 15 9 := rfl
  refine ⟨_, ?_, wb_fin (m := 0) tld_0 (wL_b (Int.le_refl _)).2⟩
  rw [sg_X1_writeBlock_0, if_pos hx, if_neg (by omega), if_neg (by omega), if_neg (by omega), if_neg (by omega), ev_write hz hf b0 b1, aft_n, sg_X1_writeBlock_135, q15, cm_wr_id (by omega) (by omega)]
/-- a pad, or what else tells nothing -/
theorem ev_wbP (hz : zOk D) (hf : fOk (D 10) (D 614 4) (D 615)) (b0 : 0 ≤ D 15 9) (b1 : D 15 9 < D 9 0) {x : Int} (x0 : 0 ≤ x) (x1 : x < D 22 3) (x2 : x < 126) (k3 : D 23 x ≠ 3) (k4 : D 23 x ≠ 4) (k5 : D 23 x ≠ 5) (k6 : D 23 x ≠ 6) (g : Int → Int) : ∃ F, cm_x 11 0 [some (.inr (.inr 22)), some (.inr (.inr 15)), some (.inr (.inr 9)), some (.inl (x)), none] [] (cm_hp D X) = some (.inl none, cm_hp F X) ∧ wbQ D F (D 23 x) 0 g := by
  have z1 := hz.1
  have q15 : (cm_up (cm_up D 11 (D 15 9) (wK D (D 15 9) (D 23 x))) 12 (D 15 9) (wL D (D 15 9) (D 23 x) 0)) 15 9 = D 15 9 := rfl
  refine ⟨_, ?_, wb_fin (m := 0) tld_0 (wL_b (Int.le_refl _)).2⟩
  rw [sg_X1_writeBlock_0, if_neg (by omega), if_pos x1, ck_t (by omega), if_neg k3, if_neg k4, if_neg k5, if_neg k6, ev_write hz hf b0 b1, aft_n, sg_X1_writeBlock_135, q15, cm_wr_id (by omega) (by omega)]
