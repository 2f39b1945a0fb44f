/-! a block is written: the class -/
variable {D E : Nat → Int → Int} {X : cm_X} {K B K' B' A : Int → Int} {h pk c t : Int} {S : Nat → Int → Int} {r : Int → Int}
/-- what becomes of a kind and of a length at a block -/
noncomputable def wK (D : Nat → Int → Int) (b k : Int) : Int := if tv (flt (D 614 4) (D 615) b) = 1 ∧ k ≠ 1 ∧ k ≠ 7 then 8 else k
noncomputable def wL (D : Nat → Int → Int) (b k l : Int) : Int := if tv (flt (D 614 4) (D 615) b) = 1 ∧ k ≠ 1 ∧ k ≠ 7 then 0 else l
theorem ev_write (hz : zOk D) (hf : fOk (D 10) (D 614 4) (D 615)) {b k l : Int} (b0 : 0 ≤ b) (b1 : b < D 9 0) : cm_x 24 0 [some (.inr (.inr 9)), some (.inl (b)), some (.inl (k)), some (.inl (l)), none, none] [] (cm_hp D X) = some (.inl none, cm_hp (cm_up (cm_up D 11 b (wK D b k)) 12 b (wL D b k l)) X) := by
  obtain ⟨z1, -⟩ := hz
  have e := fA_1 hf b0 (by omega)
  unfold wK wL
  rw [sg_X2_write_0, if_neg (by omega), if_pos b1, cm_wr_id (x := b + 1) (by omega) (by omega), ck_t (by omega), ck_t (by omega)]
  by_cases hq : flt (D 614 4) (D 615) b
  · rw [if_pos (e.mpr hq), tv_t hq]
    by_cases h1 : k = 1
    · rw [if_pos h1, ck_t (by omega), ck_t (by omega), if_neg (fun z => z.2.1 h1), if_neg (fun z => z.2.1 h1)]
    · rw [if_neg h1]
      by_cases h7 : k = 7
      · rw [if_pos h7, ck_t (by omega), ck_t (by omega), if_neg (fun z => z.2.2 h7), if_neg (fun z => z.2.2 h7)]
      · rw [if_neg h7, ck_t (by omega), ck_t (by omega), if_pos ⟨rfl, h1, h7⟩, if_pos ⟨rfl, h1, h7⟩]
  · rw [if_neg (fun z => hq (e.mp z)), tv_f hq, ck_t (by omega), ck_t (by omega), if_neg (fun z => by have := z.1; omega), if_neg (fun z => by have := z.1; omega)]
theorem ev_tell (z1 : D 9 0 ≤ 400) {b j v : Int} (b0 : 0 ≤ b) (b1 : b < D 9 0) (j0 : 0 ≤ j) (l1 : D 12 b ≤ 15) : ∃ f, cm_x 25 0 [some (.inr (.inr 9)), some (.inl (b)), some (.inl (j)), some (.inl (v))] [] (cm_hp D X) = some (.inl none, cm_hp (cm_ua D 13 f) X) ∧ ∀ y, f y = if y = b * 15 + j ∧ j < D 12 b then v else D 13 y := by
  rw [sg_X2_tell_0, if_neg (by omega), if_pos b1, if_neg (by omega), ck_t (by omega)]
  by_cases hq : j < D 12 b
  · refine ⟨cm_u1 (D 13) (b * 15 + j) v, ?_, fun y => ?_⟩
    · rw [if_pos hq, cm_wr_id (x := b * 15) (by omega) (by omega), cm_wr_id (x := b * 15 + j) (by omega) (by omega), ck_t (by omega), up_to_ua]
    · by_cases hy : y = b * 15 + j
      · rw [hy, u1_eq, if_pos ⟨rfl, hq⟩]
      · rw [u1_ne hy, if_neg (fun z => hy z.1)]
  · refine ⟨D 13, ?_, fun y => ?_⟩
    · rw [if_neg hq, ua_id]
    · rw [if_neg (fun z => hq z.2)]
