/-! what a written block tells: the reference, the rest -/
variable {D E : Nat → Int → Int} {X : cm_X} {K B K' B' A F : Int → Int} {h pk c : Int} {S : Nat → Int → Int} {r : Int → Int}
theorem ev_b5 {b t : Int} (b0 : 0 ≤ b) (b1 : b < 400) (t0 : 0 ≤ t) (t1 : t < 130) (hk : E 622 t = 5) {g0 : Int → Int} : ∃ g, cm_x 204 198 [some (.inr (.inr 613)), some (.inl (b)), some (.inl (t)), some (.inl (15 * b)), some (.inl (0)), none] [] (cm_hp (cm_ua E 620 g0) X) = some (.inl none, cm_hp (cm_ua E 620 g) X) ∧ inB b g g0 ∧ ∀ i, 0 ≤ i → i < 15 → g (15 * b + i) = if i < 12 then E 617 i else g0 (15 * b + i) := by
  obtain ⟨g, L, P1, P2⟩ := lp_inv (X := fun j g => cm_x 204 198 [some (.inr (.inr 613)), some (.inl (b)), some (.inl (t)), some (.inl (15 * b)), some (.inl (j)), none] [] (cm_hp (cm_ua E 620 g) X)) (P := fun j g => inB b g g0 ∧ ∀ i, 0 ≤ i → i < 15 → g (15 * b + i) = if i < j then E 617 i else g0 (15 * b + i)) (lo := 0) (hi := 12) (fun j g j0 j1 hP => by
    obtain ⟨p1, p2⟩ := hP
    have w0 : cm_wr (0 + j) = j := by rw [Int.zero_add]; exact cm_wr_id (by omega) (by omega)
    have w1 : cm_wr (15 * b + j) = 15 * b + j := cm_wr_id (by omega) (by omega)
    have w2 : cm_wr (j + 1) = j + 1 := cm_wr_id (by omega) (by omega)
    have q17 : cm_ua E 620 g 617 = E 617 := rfl
    refine ⟨cm_u1 g (15 * b + j) (E 617 j), ?_, inB_u p1 j0 (by omega), fun i i0 i1 => ?_⟩
    · show cm_x 204 198 [some (.inr (.inr 613)), some (.inl (b)), some (.inl (t)), some (.inl (15 * b)), some (.inl (j)), none] [] (cm_hp (cm_ua E 620 g) X) = cm_x 204 198 [some (.inr (.inr 613)), some (.inl (b)), some (.inl (t)), some (.inl (15 * b)), some (.inl (j + 1)), none] [] (cm_hp (cm_ua E 620 (cm_u1 g (15 * b + j) (E 617 j))) X)
      rw [sg_X9_putBody_198, if_pos j1, w0, ck_t (by omega), w1, ck_t (by omega), q17, up_to_ua, ua_ua, ua_same, w2]
    · by_cases hi : i = j
      · rw [hi, u1_eq, if_pos (by omega)]
      · rw [u1_ne (by omega), p2 i i0 i1]
        by_cases h2 : i < j
        · rw [if_pos h2, if_pos (by omega)]
        · rw [if_neg h2, if_neg (by omega)]) g0 (by omega) ⟨fun _ _ => rfl, fun i i0 i1 => by rw [if_neg (by omega)]⟩
  have L : cm_x 204 198 [some (.inr (.inr 613)), some (.inl (b)), some (.inl (t)), some (.inl (15 * b)), some (.inl (0)), none] [] (cm_hp (cm_ua E 620 g0) X) = cm_x 204 198 [some (.inr (.inr 613)), some (.inl (b)), some (.inl (t)), some (.inl (15 * b)), some (.inl (12)), none] [] (cm_hp (cm_ua E 620 g) X) := L
  have q22 : cm_ua E 620 g 622 = E 622 := rfl
  refine ⟨g, ?_, P1, P2⟩
  rw [L, sg_X9_putBody_198, if_neg (by omega), ck_t (by omega), q22, hk, if_neg (by omega)]
theorem ev_b6 {b t : Int} (b0 : 0 ≤ b) (b1 : b < 400) (c0 : 0 ≤ E 613 25) (c1 : E 613 25 ≤ 126) {g0 : Int → Int} : ∃ g, cm_x 204 264 [some (.inr (.inr 613)), some (.inl (b)), some (.inl (t)), some (.inl (15 * b)), some (.inl (1)), none] [] (cm_hp (cm_ua E 620 g0) X) = some (.inl none, cm_hp (cm_ua E 620 g) X) ∧ inB b g g0 ∧ ∀ i, 0 ≤ i → i < 15 → g (15 * b + i) = if i = 0 then g0 (15 * b) else if i < 13 then bod6 E i else if i = 13 then E 617 242 else E 617 243 := by
  obtain ⟨g, L, P1, P2⟩ := lp_inv (X := fun j g => cm_x 204 264 [some (.inr (.inr 613)), some (.inl (b)), some (.inl (t)), some (.inl (15 * b)), some (.inl (j)), none] [] (cm_hp (cm_ua E 620 g) X)) (P := fun j g => inB b g g0 ∧ ∀ i, 0 ≤ i → i < j → g (15 * b + i) = if i = 0 then g0 (15 * b) else bod6 E i) (lo := 1) (hi := 13) (fun j g j0 j1 hP => by
    obtain ⟨p1, p2⟩ := hP
    have w1 : cm_wr (15 * b + j) = 15 * b + j := cm_wr_id (by omega) (by omega)
    have w2 : cm_wr (j + 1) = j + 1 := cm_wr_id (by omega) (by omega)
    have w3 : cm_wr (228 + j) = 228 + j := cm_wr_id (by omega) (by omega)
    have q17 : cm_ua E 620 g 617 = E 617 := rfl
    refine ⟨cm_u1 g (15 * b + j) (bod6 E j), ?_, inB_u p1 (by omega) (by omega), fun i i0 i1 => ?_⟩
    · show cm_x 204 264 [some (.inr (.inr 613)), some (.inl (b)), some (.inl (t)), some (.inl (15 * b)), some (.inl (j)), none] [] (cm_hp (cm_ua E 620 g) X) = cm_x 204 264 [some (.inr (.inr 613)), some (.inl (b)), some (.inl (t)), some (.inl (15 * b)), some (.inl (j + 1)), none] [] (cm_hp (cm_ua E 620 (cm_u1 g (15 * b + j) (bod6 E j))) X)
      rw [sg_X9_putBody_264, if_pos j1, ev_mNameOf, aft_v, sg_X9_putBody_277, q17, w3, w1, ck_t (by omega)]
      unfold bod6
      by_cases hq : mNm (E 617) j = -1
      · rw [if_pos hq, if_pos hq, sg_X9_putBody_325, ck_t (by omega), up_to_ua, ua_ua, ua_same, w2]
      · have pq : plc (cm_ua E 620 g) 4 (mNm (E 617) j) (E 617 (228 + j)) = plc E 4 (mNm (E 617) j) (E 617 (228 + j)) := rfl
        rw [if_neg hq, if_neg hq, ck_t (by omega), ev_place (E := cm_ua E 620 g) c0 c1, aft_v, sg_X9_putBody_325, ck_t (by omega), pq, up_to_ua, ua_ua, ua_same, w2]
    · by_cases hi : i = j
      · rw [hi, u1_eq, if_neg (by omega)]
      · rw [u1_ne (by omega)]
        exact p2 i i0 (by omega)) g0 (by omega) ⟨fun _ _ => rfl, fun i i0 i1 => by
          have : i = 0 := by omega
          rw [if_pos this, this, Int.add_zero]⟩
  have L : cm_x 204 264 [some (.inr (.inr 613)), some (.inl (b)), some (.inl (t)), some (.inl (15 * b)), some (.inl (1)), none] [] (cm_hp (cm_ua E 620 g0) X) = cm_x 204 264 [some (.inr (.inr 613)), some (.inl (b)), some (.inl (t)), some (.inl (15 * b)), some (.inl (13)), none] [] (cm_hp (cm_ua E 620 g) X) := L
  have q17 : cm_ua E 620 g 617 = E 617 := rfl
  refine ⟨cm_u1 (cm_u1 g (15 * b + 13) (E 617 242)) (15 * b + 14) (E 617 243), ?_, inB_u (inB_u P1 (by omega) (by omega)) (by omega) (by omega), fun i i0 i1 => ?_⟩
  · rw [L, sg_X9_putBody_264, if_neg (by omega), cm_wr_id (x := 15 * b + 13) (by omega) (by omega), cm_wr_id (x := 15 * b + 14) (by omega) (by omega), ck_t (by omega), ck_t (by omega), q17]
    simp only [up_to_ua, ua_ua, ua_same]
  · by_cases h14 : i = 14
    · rw [h14, u1_eq, if_neg (by omega), if_neg (by omega), if_neg (by omega)]
    · rw [u1_ne (by omega)]
      by_cases h13 : i = 13
      · rw [h13, u1_eq, if_neg (by omega), if_neg (by omega), if_pos rfl]
      · rw [u1_ne (by omega), P2 i i0 (by omega)]
        by_cases hz : i = 0
        · rw [if_pos hz, if_pos hz]
        · rw [if_neg hz, if_neg hz, if_pos (by omega)]
/-- the whole of it -/
theorem ev_body {b t : Int} (b0 : 0 ≤ b) (b1 : b < 400) (t0 : 0 ≤ t) (t1 : t < 130) (c0 : 0 ≤ E 613 25) (c1 : E 613 25 ≤ 126) (h3 : E 622 t = 3 → 0 ≤ E 623 t ∧ E 623 t < 96) (h4 : E 622 t = 4 → (0 ≤ E 623 t ∧ E 623 t < 12) ∧ 0 ≤ E 617 (12 + E 623 t) ∧ E 617 (12 + E 623 t) ≤ 8) : ∃ g, cm_x 204 0 [some (.inr (.inr 613)), some (.inl (b)), some (.inl (t)), none, none, none] [] (cm_hp E X) = some (.inl none, cm_hp (cm_ua E 620 g) X) ∧ inB b g (E 620) ∧ ∀ i, 0 ≤ i → i < 15 → g (15 * b + i) = bodM E t i := by
  obtain ⟨g, L, p1, p2⟩ := ev_b8 (E := E) (X := X) (t := t) b0 b1
  have q22 : cm_ua E 620 g 622 = E 622 := rfl
  have q23 : cm_ua E 620 g 623 = E 623 := rfl
  have q17 : cm_ua E 620 g 617 = E 617 := rfl
  rw [L, sg_X9_putBody_8, if_neg (by omega), ck_t (by omega), q22]
  unfold bodM
  by_cases k3 : E 622 t = 3
  · have z := h3 k3
    refine ⟨cm_u1 g (15 * b) (E 617 (132 + E 623 t)), ?_, fun j hj => by rw [u1_ne (by omega), p1 j hj], fun i i0 i1 => ?_⟩
    · rw [if_pos k3, ck_t (by omega), q23, cm_wr_id (x := 132 + E 623 t) (by omega) (by omega), ck_t (by omega), ck_t (by omega), ck_t (by omega), if_neg (by omega), ck_t (by omega), if_neg (by omega), ck_t (by omega), if_neg (by omega), q17, up_to_ua, ua_ua, ua_same]
    · rw [if_pos k3]
      by_cases hi : i = 0
      · rw [if_pos hi, hi, Int.add_zero, u1_eq]
      · rw [if_neg hi, u1_ne (by omega), p2 i i0 i1]
  · rw [if_neg k3, ck_t (by omega)]
    by_cases k4 : E 622 t = 4
    · obtain ⟨z1, z2, z3⟩ := h4 k4
      obtain ⟨g', L', r1, r2⟩ := ev_b4 (E := E) (X := X) (t := t) (n := E 623 t) (g0 := cm_u1 g (15 * b + 8) (E 617 (12 + E 623 t))) b0 b1 t0 t1 c0 c1 z1.1 z1.2 z2 z3 k4
      refine ⟨g', ?_, fun j hj => by rw [r1 j hj, u1_ne (by omega), p1 j hj], fun i i0 i1 => ?_⟩
      · rw [if_pos k4, ck_t (by omega), q23, cm_wr_id (x := 12 + E 623 t) (by omega) (by omega), ck_t (by omega), cm_wr_id (x := 15 * b + 8) (by omega) (by omega), ck_t (by omega), q17, up_to_ua, ua_ua, ua_same, L']
      · rw [if_neg k3, if_pos k4, r2 i i0 i1]
        by_cases hl : i < E 617 (12 + E 623 t)
        · rw [if_pos hl, if_neg (by omega), if_pos hl]
        · rw [if_neg hl]
          by_cases h8 : i = 8
          · rw [if_pos h8, h8, u1_eq]
          · rw [if_neg h8, if_neg hl, u1_ne (by omega), p2 i i0 i1]
    · rw [if_neg k4, ck_t (by omega)]
      by_cases k5 : E 622 t = 5
      · obtain ⟨g', L', r1, r2⟩ := ev_b5 (E := E) (X := X) (t := t) (g0 := g) b0 b1 t0 t1 k5
        refine ⟨g', ?_, fun j hj => by rw [r1 j hj, p1 j hj], fun i i0 i1 => ?_⟩
        · rw [if_pos k5, L']
        · rw [if_neg k3, if_neg k4, if_pos k5, r2 i i0 i1]
          by_cases hl : i < 12
          · rw [if_pos hl, if_pos hl]
          · rw [if_neg hl, if_neg hl, p2 i i0 i1]
      · rw [if_neg k5, ck_t (by omega)]
        by_cases k6 : E 622 t = 6
        · have pq : plc (cm_ua E 620 g) 5 0 (E 617 228) = plc E 5 0 (E 617 228) := rfl
          obtain ⟨g', L', r1, r2⟩ := ev_b6 (E := E) (X := X) (t := t) (g0 := cm_u1 g (15 * b) (plc E 5 0 (E 617 228))) b0 b1 c0 c1
          refine ⟨g', ?_, fun j hj => by rw [r1 j hj, u1_ne (by omega), p1 j hj], fun i i0 i1 => ?_⟩
          · rw [if_pos k6, q17, ev_place (E := cm_ua E 620 g) c0 c1, aft_v, sg_X9_putBody_260, ck_t (by omega), pq, up_to_ua, ua_ua, ua_same, L']
          · rw [if_neg k3, if_neg k4, if_neg k5, if_pos k6, r2 i i0 i1, u1_eq]
        · refine ⟨g, ?_, p1, fun i i0 i1 => ?_⟩
          · rw [if_neg k6]
          · rw [if_neg k3, if_neg k4, if_neg k5, if_neg k6, p2 i i0 i1]
