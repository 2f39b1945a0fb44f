/-! guess: the loops -/
variable {D E : Nat → Int → Int} {X : cm_X} {K B K' B' A : Int → Int} {h pk c t : Int} {S : Nat → Int → Int} {r : Int → Int}
theorem eFr_rf : eFr D E E := ⟨rfl, fun _ _ _ _ => rfl, fun _ _ => rfl, fun _ _ => rfl, fun _ _ _ _ _ _ _ => rfl⟩
theorem eFr_tr {F G : Nat → Int → Int} (a : eFr D E F) (b : eFr D F G) : eFr D E G := by
  obtain ⟨a1, a2, a3, a4, a5⟩ := a
  obtain ⟨b1, b2, b3, b4, b5⟩ := b
  exact ⟨b1.trans a1, fun j x y z => (b2 j x y z).trans (a2 j x y z), fun y hy => (b3 y hy).trans (a3 y hy), fun y hy => (b4 y hy).trans (a4 y hy), fun x x1 x2 x3 x4 x5 x6 => (b5 x x1 x2 x3 x4 x5 x6).trans (a5 x x1 x2 x3 x4 x5 x6)⟩
/-- one block tried, and untried again -/
theorem eFr_try {F G : Nat → Int → Int} {k : Int} (h21 : F 613 21 = -1) (b : eFr D (cm_up F 613 21 k) G) : eFr D F (cm_up G 613 21 (-1)) := by
  obtain ⟨b1, b2, b3, b4, b5⟩ := b
  refine ⟨b1, fun j x y z => ?_, b3, b4, fun a a1 a2 a3 a4 a5 a6 => ?_⟩
  · rw [up_same]
    by_cases hj : j = 21
    · rw [hj, u1_eq, h21]
    · rw [u1_ne hj, b2 j x y z, up_same, u1_ne hj]
  · rw [up_row a1, b5 a a1 a2 a3 a4 a5 a6, up_row a1]
theorem ev_gsC (hz : zOk D) (hf : fOk (D 10) (D 614 4) (D 615)) (h0 : 0 ≤ D 15 9) (h1 : D 15 9 ≤ 400) {x w P : Int} (hP : canB D → P = pkB (D 9 1) (cCon D + 1)) (hP1 : P ≤ 1000) (u0 : Int) : ∃ n f u, cm_x 152 25 [some (.inr (.inr 0)), some (.inl (x)), some (.inl (w)), some (.inl (tv (canB D))), some (.inl (P)), some (.inl (0)), some (.inl ((-1))), some (.inl (0))] [] (cm_hp (cm_up D 9 4 u0) X) = some (.inl (some (.inl (if w = 0 then n else f))), cm_hp (cm_up D 9 4 u) X) ∧ gsQ D x (D 9 0) n f := by
  have z1 := hz.1
  obtain ⟨⟨n, f, u⟩, L, Q⟩ := lp_inv (X := fun k (q : Int × Int × Int) => cm_x 152 25 [some (.inr (.inr 0)), some (.inl (x)), some (.inl (w)), some (.inl (tv (canB D))), some (.inl (P)), some (.inl (q.1)), some (.inl (q.2.1)), some (.inl (k))] [] (cm_hp (cm_up D 9 4 q.2.2) X)) (P := fun k (q : Int × Int × Int) => gsQ D x k q.1 q.2.1) (lo := 0) (hi := D 9 0) (fun k q k0 k1 hQ => by
    obtain ⟨n, f, u⟩ := q
    have hQ : gsQ D x k n f := hQ
    have nb := hQ.2.1
    have w2 : cm_wr (k + 1) = k + 1 := cm_wr_id (by omega) (by omega)
    have w3 : cm_wr (n + 1) = n + 1 := cm_wr_id (by omega) (by omega)
    have q9 : (cm_up D 9 4 u) 9 0 = D 9 0 := rfl
    have head : cm_x 152 25 [some (.inr (.inr 0)), some (.inl (x)), some (.inl (w)), some (.inl (tv (canB D))), some (.inl (P)), some (.inl (n)), some (.inl (f)), some (.inl (k))] [] (cm_hp (cm_up D 9 4 u) X) = cm_x 152 46 [some (.inr (.inr 0)), some (.inl (x)), some (.inl (w)), some (.inl (tv (canB D))), some (.inl (P)), some (.inl (n)), some (.inl (f)), some (.inl (k))] [.inl (tv (flt (D 614 4) (D 615) k))] (cm_hp (cm_up D 9 4 u) X) := by
      rw [sg_X8_guess_25, q9, if_pos k1, ev_isF (D := cm_up D 9 4 u) hz hf k0 k1, aft_v]
      rfl
    by_cases hfl : flt (D 614 4) (D 615) k
    · refine ⟨(n, f, u), ?_, gsQ_n hQ k0 (fun z => z.1 hfl)⟩
      show cm_x 152 25 [some (.inr (.inr 0)), some (.inl (x)), some (.inl (w)), some (.inl (tv (canB D))), some (.inl (P)), some (.inl (n)), some (.inl (f)), some (.inl (k))] [] (cm_hp (cm_up D 9 4 u) X) = cm_x 152 25 [some (.inr (.inr 0)), some (.inl (x)), some (.inl (w)), some (.inl (tv (canB D))), some (.inl (P)), some (.inl (n)), some (.inl (f)), some (.inl (k + 1))] [] (cm_hp (cm_up D 9 4 u) X)
      rw [head, sg_X8_guess_46, tv_t hfl, if_neg (by omega), w2]
    · by_cases hb : canB D
      · have hv : cm_x 148 0 [some (.inr (.inr 0)), some (.inl (P)), some (.inl (k)), none] [] (cm_hp (cm_up D 9 4 u) X) = some (.inl (some (.inl (endV D k))), cm_hp (cm_up D 9 4 (fwN D k).2) X) := by
          have e := ev_endWith (D := cm_up D 9 4 u) (X := X) (P := P) (x := k) hz hf hP1 h0 (by show D 15 9 ≤ _; omega)
          have e1 : fwD (cm_up D 9 4 u) k P 400 ((cm_up D 9 4 u) 15 9) 0 = fwN D k := by rw [hP hb]; rfl
          rw [e, e1, up_to_ua, up_same, u1_u1, up_to_ua, ua_ua, ← up_to_ua]
          unfold endV
          rw [tv_t hb, if_neg (by omega : ¬ (1 : Int) = 0)]
        have mid : cm_x 152 25 [some (.inr (.inr 0)), some (.inl (x)), some (.inl (w)), some (.inl (tv (canB D))), some (.inl (P)), some (.inl (n)), some (.inl (f)), some (.inl (k))] [] (cm_hp (cm_up D 9 4 u) X) = cm_x 152 61 [some (.inr (.inr 0)), some (.inl (x)), some (.inl (w)), some (.inl (tv (canB D))), some (.inl (P)), some (.inl (n)), some (.inl (f)), some (.inl (k))] [.inl (endV D k)] (cm_hp (cm_up D 9 4 (fwN D k).2) X) := by
          rw [head, sg_X8_guess_46, tv_f hfl, if_pos rfl, tv_t hb, if_neg (by omega), hv, aft_v]
        by_cases hx : endV D k = x
        · refine ⟨(n + 1, (if n = 0 then k else f), (fwN D k).2), ?_, gsQ_y hQ k0 ⟨hfl, hx⟩⟩
          show cm_x 152 25 [some (.inr (.inr 0)), some (.inl (x)), some (.inl (w)), some (.inl (tv (canB D))), some (.inl (P)), some (.inl (n)), some (.inl (f)), some (.inl (k))] [] (cm_hp (cm_up D 9 4 u) X) = cm_x 152 25 [some (.inr (.inr 0)), some (.inl (x)), some (.inl (w)), some (.inl (tv (canB D))), some (.inl (P)), some (.inl (n + 1)), some (.inl ((if n = 0 then k else f))), some (.inl (k + 1))] [] (cm_hp (cm_up D 9 4 ((fwN D k).2)) X)
          rw [mid, sg_X8_guess_61, if_pos hx, w2, w3]
          by_cases hn0 : n = 0
          · rw [if_pos hn0, if_pos hn0]
          · rw [if_neg hn0, if_neg hn0]
        · refine ⟨(n, f, (fwN D k).2), ?_, gsQ_n hQ k0 (fun z => hx z.2)⟩
          show cm_x 152 25 [some (.inr (.inr 0)), some (.inl (x)), some (.inl (w)), some (.inl (tv (canB D))), some (.inl (P)), some (.inl (n)), some (.inl (f)), some (.inl (k))] [] (cm_hp (cm_up D 9 4 u) X) = cm_x 152 25 [some (.inr (.inr 0)), some (.inl (x)), some (.inl (w)), some (.inl (tv (canB D))), some (.inl (P)), some (.inl (n)), some (.inl (f)), some (.inl (k + 1))] [] (cm_hp (cm_up D 9 4 ((fwN D k).2)) X)
          rw [mid, sg_X8_guess_61, if_neg hx, w2]
      · have he : endV D k = -1 := by unfold endV; rw [tv_f hb, if_pos rfl]
        by_cases hx : -1 = x
        · refine ⟨(n + 1, (if n = 0 then k else f), u), ?_, gsQ_y hQ k0 ⟨hfl, by rw [he]; exact hx⟩⟩
          show cm_x 152 25 [some (.inr (.inr 0)), some (.inl (x)), some (.inl (w)), some (.inl (tv (canB D))), some (.inl (P)), some (.inl (n)), some (.inl (f)), some (.inl (k))] [] (cm_hp (cm_up D 9 4 u) X) = cm_x 152 25 [some (.inr (.inr 0)), some (.inl (x)), some (.inl (w)), some (.inl (tv (canB D))), some (.inl (P)), some (.inl (n + 1)), some (.inl ((if n = 0 then k else f))), some (.inl (k + 1))] [] (cm_hp (cm_up D 9 4 u) X)
          rw [head, sg_X8_guess_46, tv_f hfl, if_pos rfl, tv_f hb, if_pos rfl, if_pos hx, w2, w3]
          by_cases hn0 : n = 0
          · rw [if_pos hn0, if_pos hn0]
          · rw [if_neg hn0, if_neg hn0]
        · refine ⟨(n, f, u), ?_, gsQ_n hQ k0 (fun z => hx (by rw [← he]; exact z.2))⟩
          show cm_x 152 25 [some (.inr (.inr 0)), some (.inl (x)), some (.inl (w)), some (.inl (tv (canB D))), some (.inl (P)), some (.inl (n)), some (.inl (f)), some (.inl (k))] [] (cm_hp (cm_up D 9 4 u) X) = cm_x 152 25 [some (.inr (.inr 0)), some (.inl (x)), some (.inl (w)), some (.inl (tv (canB D))), some (.inl (P)), some (.inl (n)), some (.inl (f)), some (.inl (k + 1))] [] (cm_hp (cm_up D 9 4 u) X)
          rw [head, sg_X8_guess_46, tv_f hfl, if_pos rfl, tv_f hb, if_pos rfl, if_neg hx, w2]) (0, -1, u0) (by omega) gsQ_0
  have L : cm_x 152 25 [some (.inr (.inr 0)), some (.inl (x)), some (.inl (w)), some (.inl (tv (canB D))), some (.inl (P)), some (.inl (0)), some (.inl ((-1))), some (.inl (0))] [] (cm_hp (cm_up D 9 4 u0) X) = cm_x 152 25 [some (.inr (.inr 0)), some (.inl (x)), some (.inl (w)), some (.inl (tv (canB D))), some (.inl (P)), some (.inl (n)), some (.inl (f)), some (.inl (D 9 0))] [] (cm_hp (cm_up D 9 4 u) X) := L
  have q9 : (cm_up D 9 4 u) 9 0 = D 9 0 := rfl
  refine ⟨n, f, u, ?_, Q⟩
  rw [L, sg_X8_guess_25, q9, if_neg (by omega)]
  by_cases hw : w = 0
  · rw [if_pos hw, if_pos hw]
  · rw [if_neg hw, if_neg hw]
