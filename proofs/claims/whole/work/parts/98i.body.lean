/-! what a written block tells: the reference -/
variable {D E : Nat → Int → Int} {X : cm_X} {K B K' B' A F : Int → Int} {h pk c : Int} {S : Nat → Int → Int} {r : Int → Int}
/-- the place of a content -/
def plc (E : Nat → Int → Int) (k w d : Int) : Int := (fun j => if j = -1 then d else E 624 j) (fnd (fun j => decide (E 622 j = k ∧ E 623 j = w)) (-1) (E 613 25).toNat 0)
theorem ev_place {k w d : Int} (c0 : 0 ≤ E 613 25) (c1 : E 613 25 ≤ 126) : cm_x 203 0 [some (.inr (.inr 613)), some (.inl (k)), some (.inl (w)), some (.inl (d)), none] [] (cm_hp E X) = some (.inl (some (.inl (plc E k w d))), cm_hp E X) := by
  rw [sg_X9_placeOf_0]
  unfold plc
  refine lp_fnd (k := (E 613 25).toNat) (i := 0) (X := fun j => cm_x 203 3 [some (.inr (.inr 613)), some (.inl (k)), some (.inl (w)), some (.inl (d)), some (.inl (j))] [] (cm_hp E X)) (A := fun j => some (.inl (some (.inl (if j = -1 then d else E 624 j))), cm_hp E X)) (p := fun j => decide (E 622 j = k ∧ E 623 j = w)) (fun j j0 j1 => ?_) ?_
  · show cm_x 203 3 [some (.inr (.inr 613)), some (.inl (k)), some (.inl (w)), some (.inl (d)), some (.inl (j))] [] (cm_hp E X) = if decide (E 622 j = k ∧ E 623 j = w) = true then some (.inl (some (.inl (if j = -1 then d else E 624 j))), cm_hp E X) else cm_x 203 3 [some (.inr (.inr 613)), some (.inl (k)), some (.inl (w)), some (.inl (d)), some (.inl (j + 1))] [] (cm_hp E X)
    rw [sg_X9_placeOf_3, if_pos (by omega), ck_t (by omega), cm_wr_id (by omega) (by omega)]
    by_cases h1 : E 622 j = k
    · rw [if_pos h1, ck_t (by omega)]
      by_cases h2 : E 623 j = w
      · rw [if_pos h2, ck_t (by omega), if_pos (decide_eq_true ⟨h1, h2⟩), if_neg (by omega)]
      · rw [if_neg h2, if_neg (fun z => h2 (of_decide_eq_true z).2)]
    · rw [if_neg h1, if_neg (fun z => h1 (of_decide_eq_true z).1)]
  · show cm_x 203 3 [some (.inr (.inr 613)), some (.inl (k)), some (.inl (w)), some (.inl (d)), some (.inl (0 + ((E 613 25).toNat : Int)))] [] (cm_hp E X) = some (.inl (some (.inl (if (-1 : Int) = -1 then d else E 624 (-1)))), cm_hp E X)
    rw [if_pos rfl, sg_X9_placeOf_3, if_neg (by omega)]
def bod4 (E : Nat → Int → Int) (n i : Int) : Int := if E 617 (36 + 8 * n + i) = -1 then plc E 3 (8 * n + i) (-1) else E 617 (36 + 8 * n + i)
def bod6 (E : Nat → Int → Int) (v : Int) : Int := if mNm (E 617) v = -1 then E 617 (228 + v) else plc E 4 (mNm (E 617) v) (E 617 (228 + v))
def bodM (E : Nat → Int → Int) (t i : Int) : Int := if E 622 t = 3 then (if i = 0 then E 617 (132 + E 623 t) else -1) else if E 622 t = 4 then (if i = 8 then E 617 (12 + E 623 t) else if i < E 617 (12 + E 623 t) then bod4 E (E 623 t) i else -1) else if E 622 t = 5 then (if i < 12 then E 617 i else -1) else if E 622 t = 6 then (if i = 0 then plc E 5 0 (E 617 228) else if i < 13 then bod6 E i else if i = 13 then E 617 242 else E 617 243) else -1
/-- a row that is changed in one block alone -/
def inB (b : Int) (g g0 : Int → Int) : Prop := ∀ j, j < 15 * b ∨ 15 * b + 15 ≤ j → g j = g0 j
theorem inB_u {b v i : Int} {g g0 : Int → Int} (h : inB b g g0) (i0 : 0 ≤ i) (i1 : i < 15) : inB b (cm_u1 g (15 * b + i) v) g0 := fun j hj => by rw [u1_ne (by omega), h j hj]
theorem ev_b8 {b t : Int} (b0 : 0 ≤ b) (b1 : b < 400) : ∃ g, cm_x 204 0 [some (.inr (.inr 613)), some (.inl (b)), some (.inl (t)), none, none, none] [] (cm_hp E X) = cm_x 204 8 [some (.inr (.inr 613)), some (.inl (b)), some (.inl (t)), some (.inl (15 * b)), some (.inl (15)), none] [] (cm_hp (cm_ua E 620 g) X) ∧ inB b g (E 620) ∧ ∀ i, 0 ≤ i → i < 15 → g (15 * b + i) = -1 := by
  obtain ⟨g, L, P1, P2⟩ := lp_inv (X := fun j g => cm_x 204 8 [some (.inr (.inr 613)), some (.inl (b)), some (.inl (t)), some (.inl (15 * b)), some (.inl (j)), none] [] (cm_hp (cm_ua E 620 g) X)) (P := fun j g => inB b g (E 620) ∧ ∀ i, 0 ≤ i → i < j → g (15 * b + i) = -1) (lo := 0) (hi := 15) (fun j g j0 j1 hP => by
    obtain ⟨p1, p2⟩ := hP
    have w1 : cm_wr (15 * b + j) = 15 * b + j := cm_wr_id (by omega) (by omega)
    have w2 : cm_wr (j + 1) = j + 1 := cm_wr_id (by omega) (by omega)
    refine ⟨cm_u1 g (15 * b + j) (-1), ?_, inB_u p1 j0 j1, fun i i0 i1 => ?_⟩
    · show cm_x 204 8 [some (.inr (.inr 613)), some (.inl (b)), some (.inl (t)), some (.inl (15 * b)), some (.inl (j)), none] [] (cm_hp (cm_ua E 620 g) X) = cm_x 204 8 [some (.inr (.inr 613)), some (.inl (b)), some (.inl (t)), some (.inl (15 * b)), some (.inl (j + 1)), none] [] (cm_hp (cm_ua E 620 (cm_u1 g (15 * b + j) (-1))) X)
      rw [sg_X9_putBody_8, if_pos j1, w1, ck_t (by omega), up_to_ua, ua_ua, ua_same, w2]
    · by_cases hi : i = j
      · rw [hi, u1_eq]
      · rw [u1_ne (by omega)]; exact p2 i i0 (by omega)) (E 620) (by omega) ⟨fun _ _ => rfl, fun i i0 i1 => by omega⟩
  have L : cm_x 204 8 [some (.inr (.inr 613)), some (.inl (b)), some (.inl (t)), some (.inl (15 * b)), some (.inl (0)), none] [] (cm_hp (cm_ua E 620 (E 620)) X) = cm_x 204 8 [some (.inr (.inr 613)), some (.inl (b)), some (.inl (t)), some (.inl (15 * b)), some (.inl (15)), none] [] (cm_hp (cm_ua E 620 g) X) := L
  rw [ua_id] at L
  refine ⟨g, ?_, P1, P2⟩
  rw [sg_X9_putBody_0, cm_wr_id (x := 15 * b) (by omega) (by omega), L]
theorem ev_b4 {b t n : Int} (b0 : 0 ≤ b) (b1 : b < 400) (t0 : 0 ≤ t) (t1 : t < 130) (c0 : 0 ≤ E 613 25) (c1 : E 613 25 ≤ 126) (n0 : 0 ≤ n) (n1 : n < 12) (l0 : 0 ≤ E 617 (12 + n)) (l1 : E 617 (12 + n) ≤ 8) (hk : E 622 t = 4) {g0 : Int → Int} : ∃ g, cm_x 204 102 [some (.inr (.inr 613)), some (.inl (b)), some (.inl (t)), some (.inl (15 * b)), some (.inl (n)), some (.inl (0))] [] (cm_hp (cm_ua E 620 g0) X) = some (.inl none, cm_hp (cm_ua E 620 g) X) ∧ inB b g g0 ∧ ∀ i, 0 ≤ i → i < 15 → g (15 * b + i) = if i < E 617 (12 + n) then bod4 E n i else g0 (15 * b + i) := by
  have w12 : cm_wr (12 + n) = 12 + n := cm_wr_id (by omega) (by omega)
  have w8 : cm_wr (8 * n) = 8 * n := cm_wr_id (by omega) (by omega)
  obtain ⟨g, L, P1, P2⟩ := lp_inv (X := fun j g => cm_x 204 102 [some (.inr (.inr 613)), some (.inl (b)), some (.inl (t)), some (.inl (15 * b)), some (.inl (n)), some (.inl (j))] [] (cm_hp (cm_ua E 620 g) X)) (P := fun j g => inB b g g0 ∧ ∀ i, 0 ≤ i → i < 15 → g (15 * b + i) = if i < j then bod4 E n i else g0 (15 * b + i)) (lo := 0) (hi := E 617 (12 + n)) (fun j g j0 j1 hP => by
    obtain ⟨p1, p2⟩ := hP
    have w1 : cm_wr (15 * b + j) = 15 * b + j := cm_wr_id (by omega) (by omega)
    have w2 : cm_wr (j + 1) = j + 1 := cm_wr_id (by omega) (by omega)
    have w3 : cm_wr (cm_wr (36 + 8 * n) + j) = 36 + 8 * n + j := by rw [cm_wr_id (x := 36 + 8 * n) (by omega) (by omega), cm_wr_id (by omega) (by omega)]
    have w4 : cm_wr (8 * n + j) = 8 * n + j := cm_wr_id (by omega) (by omega)
    have q17 : cm_ua E 620 g 617 = E 617 := rfl
    refine ⟨cm_u1 g (15 * b + j) (bod4 E n j), ?_, inB_u p1 j0 (by omega), fun i i0 i1 => ?_⟩
    · show cm_x 204 102 [some (.inr (.inr 613)), some (.inl (b)), some (.inl (t)), some (.inl (15 * b)), some (.inl (n)), some (.inl (j))] [] (cm_hp (cm_ua E 620 g) X) = cm_x 204 102 [some (.inr (.inr 613)), some (.inl (b)), some (.inl (t)), some (.inl (15 * b)), some (.inl (n)), some (.inl (j + 1))] [] (cm_hp (cm_ua E 620 (cm_u1 g (15 * b + j) (bod4 E n j))) X)
      rw [sg_X9_putBody_102, w12, ck_t (by omega), q17, if_pos j1, w8, w3, ck_t (by omega), w4, w1]
      unfold bod4
      by_cases hq : E 617 (36 + 8 * n + j) = -1
      · have pq : plc (cm_ua E 620 g) 3 (8 * n + j) (-1) = plc E 3 (8 * n + j) (-1) := rfl
        rw [if_pos hq, if_pos hq, ev_place (E := cm_ua E 620 g) c0 c1, aft_v, sg_X9_putBody_159, ck_t (by omega), pq, up_to_ua, ua_ua, ua_same, w2]
      · rw [if_neg hq, if_neg hq, ck_t (by omega), ck_t (by omega), up_to_ua, ua_ua, ua_same, w2]
    · by_cases hi : i = j
      · rw [hi, u1_eq, if_pos (by omega)]
      · rw [u1_ne (by omega), p2 i i0 i1]
        by_cases h2 : i < j
        · rw [if_pos h2, if_pos (by omega)]
        · rw [if_neg h2, if_neg (by omega)]) g0 l0 ⟨fun _ _ => rfl, fun i i0 i1 => by rw [if_neg (by omega)]⟩
  have L : cm_x 204 102 [some (.inr (.inr 613)), some (.inl (b)), some (.inl (t)), some (.inl (15 * b)), some (.inl (n)), some (.inl (0))] [] (cm_hp (cm_ua E 620 g0) X) = cm_x 204 102 [some (.inr (.inr 613)), some (.inl (b)), some (.inl (t)), some (.inl (15 * b)), some (.inl (n)), some (.inl (E 617 (12 + n)))] [] (cm_hp (cm_ua E 620 g) X) := L
  have q17 : cm_ua E 620 g 617 = E 617 := rfl
  have q22 : cm_ua E 620 g 622 = E 622 := rfl
  refine ⟨g, ?_, P1, P2⟩
  rw [L, sg_X9_putBody_102, w12, ck_t (by omega), q17, if_neg (by omega), ck_t (by omega), q22, hk, if_neg (by omega), ck_t (by omega), if_neg (by omega)]
