/-! class and reference, each in its own heap: a writing -/
variable {C C2 D E E2 F : Nat → Int → Int} {X Y : cm_X} {S : Nat → Int → Int} {L : List CT} {h pk t : Int}
/-- the core of the relation, over two heaps -/
def R2 (C E : Nat → Int → Int) : Prop := dOk C (E 619) (E 620) (C 15 9) ∧ (∀ j, 0 ≤ j → j < 4 → E 614 j = C 9 j) ∧ fOk (C 10) (C 614 4) (C 615) ∧ (E 614 4 = C 614 4 ∧ E 615 = C 615 ∧ E 613 21 = -1) ∧ rS (stt C 15) (E 617) ∧ wS (C 9 1) (E 619) (E 620) (stt C 15)
/-- what a writing leaves: the class, the reference -/
def fr2 (C C' : Nat → Int → Int) : Prop := ∀ a : Nat, (a < 11 ∨ a = 14 ∨ 26 ≤ a) → C' a = C a
def mFr (E E' : Nat → Int → Int) : Prop := (∀ j, j ≠ 27 → E' 613 j = E 613 j) ∧ ∀ a : Nat, a ≠ 613 → a ≠ 617 → a ≠ 619 → a ≠ 620 → a ≠ 624 → E' a = E a
theorem nm_inv (hn : nS (stt C 15)) {n : Int} (n0 : 0 ≤ n) (n1 : n < 12) (h1 : C 16 n ≠ 0) : cNm C (C 16 n) = n := by
  have hne : cNm C (C 16 n) ≠ -1 := fun z => by
    unfold cNm at z
    rcases fnd_spec (p := fun k => decide (C 16 k = C 16 n)) (d := -1) (k := 12) (i := 0) with ⟨j, a, b, c, d, -⟩ | ⟨d, hh⟩
    · rw [z] at d; omega
    · exact absurd rfl (of_decide_eq_false (hh n n0 (by omega)))
  obtain ⟨b1, b2⟩ := nm_B hne
  have b2' : stt C 15 1 (cNm C (C 16 n)) = stt C 15 1 n := b2
  exact hn.2.2 _ _ b1.1 b1.2 n0 n1 b2' (by rw [b2']; exact h1)
abbrev plC (C : Nat → Int → Int) : List CT := pl (stt C 15) (cNm C) (C 9 1)
theorem plC_g (hn : nS (stt C 15)) : gL (stt C 15) (plC C) := pl_g hn (fun v hv => nm_B hv) (fun n n0 n1 h1 => nm_inv hn n0 n1 h1)
theorem plC_l (hn : nS (stt C 15)) (hz : zOk C) : ((plC C).length : Int) = C 9 1 * pkB (C 9 1) (cCon C + 1) ∧ (plC C).length ≤ 125 := by
  obtain ⟨z1, z2, z3, z4, z5⟩ := hz
  have hN : ∀ v, cNm C v ≠ -1 → 0 ≤ cNm C v ∧ cNm C v < 12 := fun v hv => (nm_B hv).1
  have h8 : ∀ n, 0 ≤ n → n < 12 → stt C 15 2 n ≤ 8 := fun n a b => (hn.2.1 n a b).2.1.2
  have hl := pl_len (S := stt C 15) (N := cNm C) (pk := C 9 1) z2.1 z2.2 (pl0_len hN h8)
  rw [pl0_n hn] at hl
  exact hl
/-- plan and writing -/
theorem wr_B (h2 : R2 C E) (hm : mHol E (plC C)) (h26 : E 613 26 = pkB (C 9 1) (cCon C + 1)) {lc mo : Int} (l0 : 0 ≤ lc) (l1 : lc ≤ 1000000) (hlim : lc = mo ∨ (400 ≤ lc ∧ 400 ≤ mo)) (mo1 : mo ≤ 1000000) : ∃ C1 v C2 w E2, cm_x 6 0 [some (.inr (.inr 22)), some (.inr (.inr 15)), some (.inl (C 9 1)), none, none] [] (cm_hp C X) = some (.inl none, cm_hp C1 X) ∧ cm_x 9 0 [some (.inr (.inr 22)), some (.inr (.inr 15)), some (.inr (.inr 9)), some (.inl (lc)), none, none, none, none, none, none, none] [] (cm_hp C1 X) = some (.inl (some (.inl (v))), cm_hp C2 X) ∧ cm_x 209 0 [some (.inr (.inr 613)), some (.inl (mo)), none, none, none, none] [] (cm_hp E Y) = some (.inl (some (.inl w)), cm_hp E2 Y) ∧ (∀ x : Nat, x < 22 ∨ 26 ≤ x → C1 x = C x) ∧ cFr C1 C2 ∧ zOk C2 ∧ C2 15 9 ≤ C2 9 0 ∧ i32 (C2 15 10) ∧ wfr (cm_up E 613 27 0) E2 ∧ jO (stt C 15) (plC C) (C 15 9) (E 619) (E 620) (C 9 1) v w C2 E2 ∧ fxd (stt C 15) (plC C) (C 9 1) (C 15 9) (E 619) (E 620) := by
  obtain ⟨⟨hz, hd2, hd3, hd4, hd5⟩, e9, hf, ⟨e4, e15, e21⟩, hr, hw⟩ := h2
  have hn := hw.1
  have hg := plC_g (C := C) hn
  have hl := plC_l (C := C) hn hz
  have hz' := hz
  obtain ⟨z1, z2, z3, z4, z5⟩ := hz
  have pb := pkB_c hn ⟨z1, z2, z3, z4, z5⟩
  obtain ⟨C1, p1, p2, p3⟩ := ev_plan (D := C) (X := X) (p := C 9 1) z2.1 z2.2 hn
  have hx : fxd (stt C 15) (plC C) (C 9 1) (C 15 9) (E 619) (E 620) := ⟨hg, hn, hw.2.1, rfl, hd5, rDk_ln hd2, hd3, hl.2⟩
  have c9 : C1 9 = C 9 := p3 9 (by omega)
  have c15 : C1 15 = C 15 := p3 15 (by omega)
  have c10 : C1 10 = C 10 := p3 10 (by omega)
  have c12 : C1 12 = C 12 := p3 12 (by omega)
  have c614 : C1 614 = C 614 := p3 614 (by omega)
  have c615 : C1 615 = C 615 := p3 615 (by omega)
  have hwC : wC (stt C 15) (plC C) C1 := by
    refine ⟨p2, ⟨p3 16 (by omega), p3 17 (by omega), p3 20 (by omega), by rw [c15], by rw [c15]⟩, ?_, by rw [c10, c614, c615]; exact hf, by rw [c15]; exact hd5, by rw [c15, c9]; exact hd4⟩
    unfold zOk
    rw [c9, c12]
    exact hz'
  obtain ⟨v, C2, r1, r2, r3, r4, r5, r6⟩ := jn_lay (X := X) (y3 := lc) (P := pkB (C 9 1) (cCon C + 1)) hx hl.1 z2.1 400 C1 lc 0 0 hwC (by rw [c9]) (by omega) (by omega) l0 l1 (by omega) (by rw [c15]; omega) (by rw [c15]; exact hw.2.2) (by rw [c9, c15]; omega)
  have q27 : (cm_up E 613 27 0) 613 27 = 0 := rfl
  have hjE : jE (stt C 15) (plC C) (C 15 9) (E 619) (E 620) (C 9 1) (pkB (C 9 1) (cCon C + 1)) lc 0 0 mo C1 (cm_up E 613 27 0) := by
    refine ⟨⟨⟨hm, E 617, hr, fun _ _ _ => rfl⟩, ⟨fun j j0 j1 => by rw [c9]; exact e9 j j0 j1, by rw [c614]; exact e4, by rw [c615]; exact e15, e21⟩, ⟨by rw [c15]; exact hr.2.2.2.2.2.2.1, by rw [c15]; exact hr.2.2.2.2.2.2.2⟩, ⟨?_, ?_⟩, by rw [c15]; exact Int.le_refl _, eqB_rf⟩, ⟨fun t n c h => by omega, fun y _ _ _ => by rw [p3 19 (by omega)], fun t n d h => by omega, fun t n d h => by omega, fun v _ _ _ _ => by rw [p3 21 (by omega)]⟩, ⟨by omega, by omega, by omega⟩, fun t x h => by omega, fun z => by omega, ?_, h26, by omega, ?_, mo1⟩
    · rw [p3 11 (by omega), c12, p3 13 (by omega), c15]; exact hd2
    · rw [c9, c15]; exact hd3
    · rw [q27, c15]
      omega
    · rw [q27]
      omega
  obtain ⟨w, E2, s1, s2, s3⟩ := r6 0 mo (cm_up E 613 27 0) hjE Y
  refine ⟨C1, v, C2, w, E2, p1, ?_, ?_, p3, r2, r3, r4, r5, s2, s3, hx⟩
  · rw [Int.mul_zero] at r1
    rw [sg_X1_lay_0, r1]
  · have q1 := e9 1 (by omega) (by omega)
    have q2 := e9 2 (by omega) (by omega)
    rw [c9] at s1
    rw [sg_X9_writeAll_0, q1, q2, cm_wr_id (x := C 9 2 + C 9 1) (by omega) (by omega), s1]
/-- the last good map is mounted: both -/
theorem mt_2 (hd : dOk C (E 619) (E 620) (C 15 9)) (e1 : E 614 1 = C 9 1) (e244 : E 617 244 = C 15 9) (e245 : E 617 245 = C 15 10) (hi : i32 (C 15 10)) : ∃ m C' f, cm_x 134 0 [some (.inr (.inr 0))] [] (cm_hp C X) = some (.inl none, cm_hp C' X) ∧ (∀ x : Nat, x < 15 ∨ 22 ≤ x → C' x = C x) ∧ (C' 15 9 = C 15 9 ∧ C' 15 10 = C 15 10) ∧ cm_x 187 0 [some (.inr (.inr 613)), some (.inl (400)), none] [] (cm_hp E Y) = some (.inl (some (.inl m)), cm_hp E Y) ∧ cm_x 193 0 [some (.inr (.inr 613)), some (.inl (m)), none, none] [] (cm_hp E Y) = some (.inl none, cm_hp (cm_ua E 617 f) Y) ∧ rS (stt C' 15) f ∧ wS (C 9 1) (E 619) (E 620) (stt C' 15) := by
  have gd := d_g hd
  have hh0 := gd.2.2.1
  have hh4 := gd.2.2.2
  have z2 := hd.1.2.1
  have hl : mpO (E 619) (C 9 1) (C 15 9) (lgM (E 619) (C 9 1) (C 15 9).toNat) := by
    have := lgM_ok (E 619) (C 9 1) (C 15 9).toNat
    rw [show (((C 15 9).toNat : Nat) : Int) = C 15 9 by omega] at this
    exact this
  have hmd : mdOk E (C 15 9) := ⟨by rw [e1]; exact gd, e244, by omega, by omega⟩
  obtain ⟨C', c1, c2, c3⟩ := ev_mount (X := X) hd hl
  obtain ⟨f, f1, f2⟩ := ev_mMount (X := Y) hmd (m := lgM (E 619) (C 9 1) (C 15 9).toNat) (by rw [e1]; exact hl)
  obtain ⟨m1, m2⟩ := mt_R gd hl c2 f2 rfl e244 e245 hi
  refine ⟨lgM (E 619) (C 9 1) (C 15 9).toNat, C', f, ?_, c3, ⟨c2.2.2.2.2.2.2.1, c2.2.2.2.2.2.2.2⟩, ?_, f1, m1, m2⟩
  · rw [sg_X8_mountLast_0, ev_last hd hh0 (Int.le_refl _), aft_v, sg_X8_mountLast_22, c1, aft_n, sg_X8_mountLast_25]
  · rw [ev_mLast hmd (by omega), e1, mn_r hh4]
