/-! the law's loop -/
variable {t i : Int} {D : Nat → Int → Int} {X : cm_X} {q : cm_R}
theorem S_ite {p : Prop} [Decidable p] {q' : cm_R} (ha : SS t D X i q) (hb : SS t D X i q') : SS t D X i (if p then q else q') := by
  split
  · exact ha
  · exact hb
theorem st_none (hR : R D t) (w6 : cm_wr (i + 6) = i + 6) : SS t D X i (cm_x 293 1791 [some (.inr (.inr 100000)), some (.inr (.inr 0)), some (.inr (.inr 613)), some (.inr (.inr 633)), some (.inl (i)), none, none, none] [] (cm_hp D X)) := ⟨D, X, by rw [sg_L_law_1791, w6], R_mono hR (by omega), rfl, rfl, by omega, by omega⟩
theorem law_step (hR : R D t) (ht : 0 ≤ t ∧ t < 1000000) (hI : ∀ j, i32 (D 100000 j)) (h0 : 0 ≤ i) (h6 : i + 6 ≤ (X.2.2.2 : Int)) (hL : X.2.2.2 ≤ 3072) : SS t D X i (cm_x 293 23 [some (.inr (.inr 100000)), some (.inr (.inr 0)), some (.inr (.inr 613)), some (.inr (.inr 633)), some (.inl (i)), none, none, none] [] (cm_hp D X)) := by
  have w6 : cm_wr (i + 6) = i + 6 := cm_wr_id (by omega) (by omega)
  have wl : cm_wr ((X.2.2.2 : Int) - 6) = (X.2.2.2 : Int) - 6 := cm_wr_id (by omega) (by omega)
  rw [sg_L_law_23, wl, if_neg (by omega), ck_t (by omega)]
  exact (S_ite (st_feed hR ht hI h0 h6 hL) (S_ite (st_disc hR ht hI h0 h6 hL) (S_ite (st_fault hR ht hI h0 h6 hL) (S_ite (st_count hR ht hI h0 h6 hL) (S_ite (st_block hR ht hI h0 h6 hL) (S_ite (st_tells hR ht hI h0 h6 hL) (S_ite (st_file hR ht hI h0 h6 hL) (S_ite (st_lie hR ht hI h0 h6 hL) (S_ite (st_read hR ht hI h0 h6 hL) (S_ite (st_past hR ht hI h0 h6 hL) (S_ite (st_versions hR ht hI h0 h6 hL) (S_ite (st_since hR ht hI h0 h6 hL) (S_ite (st_alike hR ht hI h0 h6 hL) (S_ite (st_set hR ht hI h0 h6 hL) (S_ite (st_cut hR ht hI h0 h6 hL) (S_ite (st_erase hR ht hI h0 h6 hL) (S_ite (st_rename hR ht hI h0 h6 hL) (S_ite (st_copy hR ht hI h0 h6 hL) (S_ite (st_revert hR ht hI h0 h6 hL) (S_ite (st_sync hR ht hI h0 h6 hL) (S_ite (st_tear hR ht hI h0 h6 hL) (S_ite (st_close hR ht hI h0 h6 hL) (S_ite (st_mount hR ht hI h0 h6 hL) (S_ite (st_undo hR ht hI h0 h6 hL) (S_ite (st_cost hR ht hI h0 h6 hL) (S_ite (st_apart hR ht hI h0 h6 hL) (S_ite (st_found hR ht hI h0 h6 hL) (S_ite (st_left hR ht hI h0 h6 hL) (S_ite (st_ends hR ht hI h0 h6 hL) (S_ite (st_toPack hR ht hI h0 h6 hL) (S_ite (st_guess hR ht hI h0 h6 hL) (S_ite (st_storms hR ht hI h0 h6 hL) (S_ite (st_years hR ht hI h0 h6 hL) (S_ite (st_image hR ht hI h0 h6 hL) (S_ite (st_restore hR ht hI h0 h6 hL) (st_none hR w6))))))))))))))))))))))))))))))))))))
theorem law_loop {L : Nat} (hL : L ≤ 3072) : ∀ (n : Nat) (i t : Int) (D : Nat → Int → Int) (X : cm_X), X.2.2.2 = L → R D t → 0 ≤ t → t + 400 * n < 1000000 → (∀ j, i32 (D 100000 j)) → 0 ≤ i → i ≤ L → (L : Int) - 6 < i + 6 * n → ∃ (E : Nat → Int → Int) (X' : cm_X), cm_x 293 23 [some (.inr (.inr 100000)), some (.inr (.inr 0)), some (.inr (.inr 613)), some (.inr (.inr 633)), some (.inl (i)), none, none, none] [] (cm_hp D X) = some (.inl (some (.inl 1)), cm_hp E X') ∧ X'.2.1 ≤ X.2.1 + n ∧ X'.2.2.1 ≤ X.2.2.1 + 6 * n := by
  intro n
  induction n with
  | zero =>
    intro i t D X hX hR ht htn hI h0 hi hn
    have wl : cm_wr ((X.2.2.2 : Int) - 6) = (X.2.2.2 : Int) - 6 := cm_wr_id (by omega) (by omega)
    refine ⟨D, X, ?_, by omega, by omega⟩
    rw [sg_L_law_23, wl, if_pos (by omega)]
  | succ n ih =>
    intro i t D X hX hR ht htn hI h0 hi hn
    by_cases h6 : i + 6 ≤ (X.2.2.2 : Int)
    · obtain ⟨E, X1, e1, hE, er, x1, x2, x3⟩ := law_step hR ⟨ht, by omega⟩ hI h0 h6 (by omega)
      obtain ⟨E2, X2, e2, x4, x5⟩ := ih (i + 6) (t + 400) E X1 (x1.trans hX) hE (by omega) (by omega) (fun j => by rw [er]; exact hI j) (by omega) (by omega) (by omega)
      exact ⟨E2, X2, e1.trans e2, by omega, by omega⟩
    · have wl : cm_wr ((X.2.2.2 : Int) - 6) = (X.2.2.2 : Int) - 6 := cm_wr_id (by omega) (by omega)
      refine ⟨D, X, ?_, by omega, by omega⟩
      rw [sg_L_law_23, wl, if_pos (by omega)]
