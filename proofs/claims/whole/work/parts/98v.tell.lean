/-! a block is told of: the class -/
variable {D E : Nat → Int → Int} {X : cm_X} {K B K' B' A : Int → Int} {h pk c t : Int} {S : Nat → Int → Int} {r : Int → Int}
/-- F is D with j numbers told at block b -/
def tld (D F : Nat → Int → Int) (b j : Int) (g : Int → Int) : Prop := (∀ y, F 13 y = if b * 15 ≤ y ∧ y < b * 15 + j ∧ y < b * 15 + D 12 b then g (y - b * 15) else D 13 y) ∧ ∀ a : Nat, a ≠ 13 → F a = D a
theorem tld_0 {b : Int} {g : Int → Int} : tld D D b 0 g := ⟨fun y => by rw [if_neg (by omega)], fun _ _ => rfl⟩
theorem tld_s {F : Nat → Int → Int} {b j v : Int} {g : Int → Int} (hP : tld D F b j g) (z1 : D 9 0 ≤ 400) (b0 : 0 ≤ b) (b1 : b < D 9 0) (j0 : 0 ≤ j) (l1 : D 12 b ≤ 15) (hv : g j = v) : ∃ F', cm_x 25 0 [some (.inr (.inr 9)), some (.inl (b)), some (.inl (j)), some (.inl (v))] [] (cm_hp F X) = some (.inl none, cm_hp F' X) ∧ tld D F' b (j + 1) g := by
  obtain ⟨p1, p2⟩ := hP
  have e9 := p2 9 (by omega)
  have e12 := p2 12 (by omega)
  obtain ⟨f, f1, f2⟩ := ev_tell (D := F) (X := X) (b := b) (j := j) (v := v) (by rw [e9]; exact z1) b0 (by rw [e9]; exact b1) j0 (by rw [e12]; exact l1)
  refine ⟨cm_ua F 13 f, f1, fun y => ?_, fun a ha => by rw [ua_row ha, p2 a ha]⟩
  rw [ua_same, f2 y, e12, p1 y]
  by_cases hy : y = b * 15 + j ∧ j < D 12 b
  · rw [if_pos hy, if_pos (by omega), hy.1, ← hv]
    congr 1
    omega
  · rw [if_neg hy]
    by_cases h2 : b * 15 ≤ y ∧ y < b * 15 + j ∧ y < b * 15 + D 12 b
    · rw [if_pos h2, if_pos (by omega)]
    · rw [if_neg h2, if_neg (by omega)]
theorem ev_wEnt {n : Int} (n0 : 0 ≤ n) (n1 : n < 12) (z1 : D 9 0 ≤ 400) (b0 : 0 ≤ D 15 9) (b1 : D 15 9 < D 9 0) (l1 : D 12 (D 15 9) ≤ 15) (k0 : 0 ≤ D 17 n) (k1 : D 17 n ≤ 8) : ∃ F, cm_x 12 17 [some (.inr (.inr 15)), some (.inr (.inr 9)), some (.inl (n)), some (.inl (0))] [] (cm_hp D X) = some (.inl none, cm_hp F X) ∧ tld D F (D 15 9) (D 17 n) (fun i => D 19 (n * 8 + i)) := by
  obtain ⟨F, L, P⟩ := lp_inv (X := fun j F => cm_x 12 17 [some (.inr (.inr 15)), some (.inr (.inr 9)), some (.inl (n)), some (.inl (j))] [] (cm_hp F X)) (P := fun j F => tld D F (D 15 9) j (fun i => D 19 (n * 8 + i))) (lo := 0) (hi := D 17 n) (fun j F j0 j1 hP => by
    have e17 := hP.2 17 (by omega)
    have e15 := hP.2 15 (by omega)
    have e19 := hP.2 19 (by omega)
    obtain ⟨F', a, b⟩ := tld_s (X := X) (v := D 19 (n * 8 + j)) hP z1 b0 b1 j0 l1 rfl
    refine ⟨F', ?_, b⟩
    show cm_x 12 17 [some (.inr (.inr 15)), some (.inr (.inr 9)), some (.inl (n)), some (.inl (j))] [] (cm_hp F X) = cm_x 12 17 [some (.inr (.inr 15)), some (.inr (.inr 9)), some (.inl (n)), some (.inl (j + 1))] [] (cm_hp F' X)
    rw [sg_X1_writeEntry_17, ck_t (by omega), e17, if_pos j1, ev_blk n0 n1 j0 (by omega), aft_v, sg_X1_writeEntry_39, e15, e19, a, aft_n, sg_X1_writeEntry_42, cm_wr_id (by omega) (by omega)]) D k0 tld_0
  have L : cm_x 12 17 [some (.inr (.inr 15)), some (.inr (.inr 9)), some (.inl (n)), some (.inl (0))] [] (cm_hp D X) = cm_x 12 17 [some (.inr (.inr 15)), some (.inr (.inr 9)), some (.inl (n)), some (.inl (D 17 n))] [] (cm_hp F X) := L
  refine ⟨F, ?_, P⟩
  rw [L, sg_X1_writeEntry_17, ck_t (by omega), P.2 17 (by omega), if_neg (by omega)]
theorem ev_wDir (z1 : D 9 0 ≤ 400) (b0 : 0 ≤ D 15 9) (b1 : D 15 9 < D 9 0) (l1 : D 12 (D 15 9) ≤ 15) : ∃ F, cm_x 13 13 [some (.inr (.inr 15)), some (.inr (.inr 9)), some (.inl (0))] [] (cm_hp D X) = some (.inl none, cm_hp F X) ∧ tld D F (D 15 9) 12 (fun i => if D 16 i = 0 then -1 else D 16 i) := by
  obtain ⟨F, L, P⟩ := lp_inv (X := fun j F => cm_x 13 13 [some (.inr (.inr 15)), some (.inr (.inr 9)), some (.inl (j))] [] (cm_hp F X)) (P := fun j F => tld D F (D 15 9) j (fun i => if D 16 i = 0 then -1 else D 16 i)) (lo := 0) (hi := 12) (fun j F j0 j1 hP => by
    have e16 := hP.2 16 (by omega)
    have e15 := hP.2 15 (by omega)
    obtain ⟨F', a, b⟩ := tld_s (X := X) (v := if D 16 j = 0 then -1 else D 16 j) hP z1 b0 b1 j0 l1 rfl
    refine ⟨F', ?_, b⟩
    show cm_x 13 13 [some (.inr (.inr 15)), some (.inr (.inr 9)), some (.inl (j))] [] (cm_hp F X) = cm_x 13 13 [some (.inr (.inr 15)), some (.inr (.inr 9)), some (.inl (j + 1))] [] (cm_hp F' X)
    rw [sg_X1_writeDirectory_13, if_pos j1, ck_t (by omega), e16, e15]
    by_cases hz : D 16 j = 0
    · rw [if_pos hz] at a ⊢
      rw [a, aft_n, sg_X1_writeDirectory_47, cm_wr_id (by omega) (by omega)]
    · rw [if_neg hz] at a ⊢
      rw [ck_t (by omega), a, aft_n, sg_X1_writeDirectory_47, cm_wr_id (by omega) (by omega)]) D (by omega) tld_0
  have L : cm_x 13 13 [some (.inr (.inr 15)), some (.inr (.inr 9)), some (.inl (0))] [] (cm_hp D X) = cm_x 13 13 [some (.inr (.inr 15)), some (.inr (.inr 9)), some (.inl (12))] [] (cm_hp F X) := L
  refine ⟨F, ?_, P⟩
  rw [L, sg_X1_writeDirectory_13, if_neg (by omega)]
def mpT (D : Nat → Int → Int) (i : Int) : Int := if i < 13 then D 21 i else if i = 13 then D 15 7 else D 15 8
theorem ev_wMap (z1 : D 9 0 ≤ 400) (b0 : 0 ≤ D 15 9) (b1 : D 15 9 < D 9 0) (l1 : D 12 (D 15 9) ≤ 15) : ∃ F, cm_x 14 14 [some (.inr (.inr 15)), some (.inr (.inr 9)), some (.inl (0))] [] (cm_hp D X) = some (.inl none, cm_hp F X) ∧ tld D F (D 15 9) 15 (mpT D) := by
  obtain ⟨F, L, P⟩ := lp_inv (X := fun j F => cm_x 14 14 [some (.inr (.inr 15)), some (.inr (.inr 9)), some (.inl (j))] [] (cm_hp F X)) (P := fun j F => tld D F (D 15 9) j (mpT D)) (lo := 0) (hi := 13) (fun j F j0 j1 hP => by
    have e21 := hP.2 21 (by omega)
    have e15 := hP.2 15 (by omega)
    obtain ⟨F', a, b⟩ := tld_s (X := X) (v := D 21 j) hP z1 b0 b1 j0 l1 (by unfold mpT; rw [if_pos j1])
    refine ⟨F', ?_, b⟩
    show cm_x 14 14 [some (.inr (.inr 15)), some (.inr (.inr 9)), some (.inl (j))] [] (cm_hp F X) = cm_x 14 14 [some (.inr (.inr 15)), some (.inr (.inr 9)), some (.inl (j + 1))] [] (cm_hp F' X)
    rw [sg_X1_writeMap_14, if_pos j1, ck_t (by omega), e21, e15, a, aft_n, sg_X1_writeMap_35, cm_wr_id (by omega) (by omega)]) D (by omega) tld_0
  have L : cm_x 14 14 [some (.inr (.inr 15)), some (.inr (.inr 9)), some (.inl (0))] [] (cm_hp D X) = cm_x 14 14 [some (.inr (.inr 15)), some (.inr (.inr 9)), some (.inl (13))] [] (cm_hp F X) := L
  have e15 := P.2 15 (by omega)
  obtain ⟨F1, a1, b1'⟩ := tld_s (X := X) (v := D 15 7) P z1 b0 b1 (by omega) l1 rfl
  have b1' : tld D F1 (D 15 9) 14 (mpT D) := b1'
  obtain ⟨F2, a2, b2⟩ := tld_s (X := X) (v := D 15 8) b1' z1 b0 b1 (by omega) l1 rfl
  have e15' := b1'.2 15 (by omega)
  refine ⟨F2, ?_, b2⟩
  rw [L, sg_X1_writeMap_14, if_neg (by omega), e15, a1, aft_n, sg_X1_writeMap_55, e15', a2, aft_n, sg_X1_writeMap_69]
