/-! bytes are fed: both -/
variable {D E : Nat → Int → Int} {X : cm_X} {K B K' B' : Int → Int} {h pk t : Int} {r : Int → Int}
theorem bv_255 : ∀ i : Nat, i < 32 → 8 ≤ i → (255#32).getLsbD i = false := by decide
theorem bv_by (a : BitVec 32) (s : Nat) (hs : s ≤ 24) : a.sshiftRight s &&& 255#32 = (a >>> s) &&& 255#32 := by
  apply BitVec.eq_of_getLsbD_eq
  intro i hi
  rw [BitVec.getLsbD_and, BitVec.getLsbD_and, BitVec.getLsbD_sshiftRight, BitVec.getLsbD_ushiftRight]
  by_cases h8 : i < 8
  · rw [if_pos (by omega), decide_eq_false (by omega)]
    simp
  · rw [bv_255 i hi (by omega), Bool.and_false, Bool.and_false]
theorem by_and (x : Int) {s : Int} (hs : s = 0 ∨ s = 8 ∨ s = 16 ∨ s = 24) : cm_and (cm_shr x s) 255 = cm_and (cm_ushr x s) 255 := by
  unfold cm_and cm_shr cm_ushr
  rw [Int32.ofInt_toInt, Int32.ofInt_toInt]
  congr 1
  apply Int32.toBitVec_inj.mp
  rw [Int32.toBitVec_and, Int32.toBitVec_and, Int32.toBitVec_shiftRight]
  rcases hs with rfl | rfl | rfl | rfl
  · exact bv_by (Int32.ofInt x).toBitVec 0 (by omega)
  · exact bv_by (Int32.ofInt x).toBitVec 8 (by omega)
  · exact bv_by (Int32.ofInt x).toBitVec 16 (by omega)
  · exact bv_by (Int32.ofInt x).toBitVec 24 (by omega)
theorem by_b (y : Int) : 0 ≤ cm_and y 255 ∧ cm_and y 255 ≤ 255 := by
  unfold cm_and
  have h1 : (Int32.ofInt y &&& Int32.ofInt 255).toInt = ((Int32.ofInt y).toBitVec &&& 255#32).toInt := rfl
  have h2 : ((Int32.ofInt y).toBitVec &&& 255#32).toNat ≤ 255 := by
    rw [BitVec.toNat_and]
    exact Nat.and_le_right
  rw [h1, BitVec.toInt_eq_toNat_of_lt (by omega)]
  omega
theorem u1_u1 {g : Int → Int} {i v w : Int} : cm_u1 (cm_u1 g i v) i w = cm_u1 g i w := by
  funext j
  unfold cm_u1
  by_cases h : j = i
  · rw [if_pos h, if_pos h]
  · rw [if_neg h, if_neg h, if_neg h]
theorem u1_id {g : Int → Int} {i : Int} : cm_u1 g i (g i) = g := by
  funext j
  unfold cm_u1
  by_cases h : j = i
  · rw [if_pos h, h]
  · rw [if_neg h]
/-- a row of bytes and its count -/
def gF (D : Nat → Int → Int) (a b : Nat) (c : Int) (f : Int → Int) (m : Int) : Nat → Int → Int := cm_ua (cm_ua D a f) b (cm_u1 (D b) c m)
theorem gF_a {a b : Nat} {c m : Int} {f : Int → Int} (hab : a ≠ b) : gF D a b c f m a = f := by unfold gF; rw [ua_row hab, ua_same]
theorem gF_b {a b : Nat} {c m : Int} {f : Int → Int} : gF D a b c f m b = cm_u1 (D b) c m := by unfold gF; rw [ua_same]
theorem gF_o {a b x : Nat} {c m : Int} {f : Int → Int} (ha : x ≠ a) (hb : x ≠ b) : gF D a b c f m x = D x := by unfold gF; rw [ua_row hb, ua_row ha]
theorem gF_id {a b : Nat} {c : Int} : gF D a b c (D a) (D b c) = D := by
  unfold gF
  rw [u1_id, ua_id, ua_id]
theorem gF_gF {a b : Nat} {c m m' : Int} {f f' : Int → Int} : gF (gF D a b c f m) a b c f' m' = gF D a b c f' m' := by
  funext x
  by_cases hb : x = b
  · rw [hb, gF_b, gF_b, gF_b, u1_u1]
  · by_cases ha : x = a
    · rw [ha, gF_a (by omega), gF_a (by omega)]
    · rw [gF_o ha hb, gF_o ha hb, gF_o ha hb]
theorem gF_up {a b : Nat} {c m i v w : Int} {f : Int → Int} (hab : a ≠ b) : cm_up (cm_up (gF D a b c f m) a i v) b c w = gF D a b c (cm_u1 f i v) w := by
  funext x
  by_cases hb : x = b
  · rw [hb, up_same, up_row (Ne.symm hab), gF_b, gF_b, u1_u1]
  · by_cases ha : x = a
    · rw [ha, up_row hab, up_same, gF_a hab, gF_a hab]
    · rw [up_row hb, up_row ha, gF_o ha hb, gF_o ha hb]
theorem ev_fdn {x n : Int} (hn : D 0 1 = n) (n0 : 0 ≤ n) (n1 : n + 4 ≤ 700) : ∃ f, cm_x 102 0 [some (.inr (.inr 0)), some (.inl (x)), none] [] (cm_hp D X) = some (.inl none, cm_hp (gF D 1 0 1 f (n + 4)) X) ∧ ∀ j, f j = if n ≤ j ∧ j < n + 4 then cm_and (cm_ushr x (24 - 8 * (j - n))) 255 else D 1 j := by
  obtain ⟨f, L, P⟩ := lp_inv (X := fun i f => cm_x 102 3 [some (.inr (.inr 0)), some (.inl (x)), some (.inl (24 - 8 * i))] [] (cm_hp (gF D 1 0 1 f (n + i)) X)) (P := fun i f => ∀ j, f j = if n ≤ j ∧ j < n + i then cm_and (cm_ushr x (24 - 8 * (j - n))) 255 else D 1 j) (lo := 0) (hi := 4) (fun i f i0 i1 hP => by
    refine ⟨cm_u1 f (n + i) (cm_and (cm_ushr x (24 - 8 * i)) 255), ?_, fun j => ?_⟩
    · show cm_x 102 3 [some (.inr (.inr 0)), some (.inl (x)), some (.inl (24 - 8 * i))] [] (cm_hp (gF D 1 0 1 f (n + i)) X) = cm_x 102 3 [some (.inr (.inr 0)), some (.inl (x)), some (.inl (24 - 8 * (i + 1)))] [] (cm_hp (gF D 1 0 1 (cm_u1 f (n + i) (cm_and (cm_ushr x (24 - 8 * i)) 255)) (n + (i + 1))) X)
      have e1 : (gF D 1 0 1 f (n + i)) 0 1 = n + i := by rw [gF_b, u1_eq]
      have e2 : cm_wr (24 - 8 * i + (-8)) = 24 - 8 * (i + 1) := by rw [cm_wr_id (by omega) (by omega)]; omega
      have e3 : cm_wr (n + i + 1) = n + (i + 1) := by rw [cm_wr_id (by omega) (by omega)]; omega
      rw [sg_X8_feedNumber_3, if_neg (by omega), e1, ck_t (by omega), gF_up (by omega), e2, e3]
    · by_cases hj : j = n + i
      · rw [hj, u1_eq, if_pos (by omega)]
        congr 3
        omega
      · rw [u1_ne hj, hP j]
        by_cases h2 : n ≤ j ∧ j < n + i
        · rw [if_pos h2, if_pos (by omega)]
        · rw [if_neg h2, if_neg (by omega)]) (D 1) (by omega) (fun j => by rw [if_neg (by omega)])
  refine ⟨f, ?_, P⟩
  have L : cm_x 102 3 [some (.inr (.inr 0)), some (.inl (x)), some (.inl (24))] [] (cm_hp D X) = cm_x 102 3 [some (.inr (.inr 0)), some (.inl (x)), some (.inl (-8))] [] (cm_hp (gF D 1 0 1 f (n + 4)) X) := by
    have z := L
    rw [Int.add_zero, ← hn, gF_id, hn] at z
    exact z
  rw [sg_X8_feedNumber_0, L, sg_X8_feedNumber_3, if_pos (by omega)]
/-- the bytes of five numbers -/
def bt (x1 x2 x3 x4 x5 : Int) (k : Int) : Int := cm_and (cm_ushr (if k < 4 then x1 else if k < 8 then x2 else if k < 12 then x3 else if k < 16 then x4 else x5) (24 - 8 * (k % 4))) 255
theorem ev_feed {x1 x2 x3 x4 x5 n : Int} (hn : D 0 1 = n) (n0 : 0 ≤ n) (n1 : n + 20 ≤ 700) : ∃ f, cm_x 101 0 [some (.inr (.inr 0)), some (.inl (x1)), some (.inl (x2)), some (.inl (x3)), some (.inl (x4)), some (.inl (x5))] [] (cm_hp D X) = some (.inl (some (.inl (n + 20))), cm_hp (gF D 1 0 1 f (n + 20)) X) ∧ ∀ j, f j = if n ≤ j ∧ j < n + 20 then bt x1 x2 x3 x4 x5 (j - n) else D 1 j := by
  obtain ⟨f1, a1, p1⟩ := ev_fdn (D := D) (X := X) (x := x1) hn n0 (by omega)
  obtain ⟨f2, a2, p2⟩ := ev_fdn (D := gF D 1 0 1 f1 (n + 4)) (X := X) (x := x2) (n := n + 4) (by rw [gF_b, u1_eq]) (by omega) (by omega)
  obtain ⟨f3, a3, p3⟩ := ev_fdn (D := gF D 1 0 1 f2 (n + 4 + 4)) (X := X) (x := x3) (n := n + 4 + 4) (by rw [gF_b, u1_eq]) (by omega) (by omega)
  obtain ⟨f4, a4, p4⟩ := ev_fdn (D := gF D 1 0 1 f3 (n + 4 + 4 + 4)) (X := X) (x := x4) (n := n + 4 + 4 + 4) (by rw [gF_b, u1_eq]) (by omega) (by omega)
  obtain ⟨f5, a5, p5⟩ := ev_fdn (D := gF D 1 0 1 f4 (n + 4 + 4 + 4 + 4)) (X := X) (x := x5) (n := n + 4 + 4 + 4 + 4) (by rw [gF_b, u1_eq]) (by omega) (by omega)
  rw [gF_gF] at a2 a3 a4 a5
  rw [gF_a (by omega)] at p2 p3 p4 p5
  have e20 : n + 4 + 4 + 4 + 4 + 4 = n + 20 := by omega
  refine ⟨f5, ?_, fun j => ?_⟩
  · rw [sg_X8_feed_0, hn, cm_wr_id (by omega) (by omega), if_neg (by omega), a1, aft_n, sg_X8_feed_20, a2, aft_n, sg_X8_feed_25, a3, aft_n, sg_X8_feed_30, a4, aft_n, sg_X8_feed_36, a5, aft_n, sg_X8_feed_42, gF_b, u1_eq, e20]
  · rw [p5, p4, p3, p2, p1]
    unfold bt
    by_cases h0 : n ≤ j ∧ j < n + 20
    · rw [if_pos h0]
      by_cases h1 : j < n + 4
      · rw [if_neg (by omega), if_neg (by omega), if_neg (by omega), if_neg (by omega), if_pos (by omega), if_pos (by omega)]
        congr 2; omega
      · by_cases h2 : j < n + 8
        · rw [if_neg (by omega), if_neg (by omega), if_neg (by omega), if_pos (by omega), if_neg (by omega), if_pos (by omega)]
          congr 2; omega
        · by_cases h3 : j < n + 12
          · rw [if_neg (by omega), if_neg (by omega), if_pos (by omega), if_neg (by omega), if_neg (by omega), if_pos (by omega)]
            congr 2; omega
          · by_cases h4 : j < n + 16
            · rw [if_neg (by omega), if_pos (by omega), if_neg (by omega), if_neg (by omega), if_neg (by omega), if_pos (by omega)]
              congr 2; omega
            · rw [if_pos (by omega), if_neg (by omega), if_neg (by omega), if_neg (by omega), if_neg (by omega)]
              congr 2; omega
    · rw [if_neg h0, if_neg (by omega), if_neg (by omega), if_neg (by omega), if_neg (by omega), if_neg (by omega)]
theorem ev_mFeed {x1 x2 x3 x4 x5 n : Int} (hn : D 613 9 = n) (n0 : 0 ≤ n) (n1 : n + 20 ≤ 700) : ∃ f, cm_x 167 23 [some (.inr (.inr 613)), some (.inl (x1)), some (.inl (x2)), some (.inl (x3)), some (.inl (x4)), some (.inl (x5)), some (.inl (0)), none] [] (cm_hp D X) = some (.inl (some (.inl (n + 20))), cm_hp (gF D 621 613 9 f (n + 20)) X) ∧ ∀ j, f j = if n ≤ j ∧ j < n + 20 then bt x1 x2 x3 x4 x5 (j - n) else D 621 j := by
  obtain ⟨f, L, P⟩ := lp_inv (X := fun i f => cm_x 167 23 [some (.inr (.inr 613)), some (.inl (x1)), some (.inl (x2)), some (.inl (x3)), some (.inl (x4)), some (.inl (x5)), some (.inl (i)), none] [] (cm_hp (gF D 621 613 9 f (n + i)) X)) (P := fun i f => ∀ j, f j = if n ≤ j ∧ j < n + i then bt x1 x2 x3 x4 x5 (j - n) else D 621 j) (lo := 0) (hi := 20) (fun i f i0 i1 hP => by
    refine ⟨cm_u1 f (n + i) (bt x1 x2 x3 x4 x5 i), ?_, fun j => ?_⟩
    · show cm_x 167 23 [some (.inr (.inr 613)), some (.inl (x1)), some (.inl (x2)), some (.inl (x3)), some (.inl (x4)), some (.inl (x5)), some (.inl (i)), none] [] (cm_hp (gF D 621 613 9 f (n + i)) X) = cm_x 167 23 [some (.inr (.inr 613)), some (.inl (x1)), some (.inl (x2)), some (.inl (x3)), some (.inl (x4)), some (.inl (x5)), some (.inl ((i + 1))), none] [] (cm_hp (gF D 621 613 9 (cm_u1 f (n + i) (bt x1 x2 x3 x4 x5 i)) (n + (i + 1))) X)
      have e1 : (gF D 621 613 9 f (n + i)) 613 9 = n + i := by rw [gF_b, u1_eq]
      have e2 : cm_wr (i + 1) = i + 1 := cm_wr_id (by omega) (by omega)
      have e3 : cm_wr (n + i + 1) = n + (i + 1) := by rw [cm_wr_id (by omega) (by omega)]; omega
      have e4 : cm_wr (24 - cm_wr (8 * Int.tmod i 4)) = 24 - 8 * (i % 4) := by
        rw [Int.tmod_eq_emod_of_nonneg i0, cm_wr_id (x := 8 * (i % 4)) (by omega) (by omega), cm_wr_id (by omega) (by omega)]
      have e5 : 24 - 8 * (i % 4) = 0 ∨ 24 - 8 * (i % 4) = 8 ∨ 24 - 8 * (i % 4) = 16 ∨ 24 - 8 * (i % 4) = 24 := by omega
      rw [sg_X9_feed_23, if_pos i1, e1, e2, e3, e4, ck_t (by omega), by_and _ e5, by_and _ e5, by_and _ e5, by_and _ e5, by_and _ e5, gF_up (by omega), gF_up (by omega), gF_up (by omega), gF_up (by omega), gF_up (by omega)]
      unfold bt
      by_cases h1 : i < 4
      · rw [if_pos h1, if_pos h1]
      · rw [if_neg h1, if_neg h1]
        by_cases h2 : i < 8
        · rw [if_pos h2, if_pos h2, ck_t (by omega)]
        · rw [if_neg h2, if_neg h2]
          by_cases h3 : i < 12
          · rw [if_pos h3, if_pos h3, ck_t (by omega)]
          · rw [if_neg h3, if_neg h3]
            by_cases h4 : i < 16
            · rw [if_pos h4, if_pos h4, ck_t (by omega)]
            · rw [if_neg h4, if_neg h4, ck_t (by omega)]
    · by_cases hj : j = n + i
      · rw [hj, u1_eq, if_pos (by omega)]
        congr 1
        omega
      · rw [u1_ne hj, hP j]
        by_cases h2 : n ≤ j ∧ j < n + i
        · rw [if_pos h2, if_pos (by omega)]
        · rw [if_neg h2, if_neg (by omega)]) (D 621) (by omega) (fun j => by rw [if_neg (by omega)])
  refine ⟨f, ?_, P⟩
  have L : cm_x 167 23 [some (.inr (.inr 613)), some (.inl (x1)), some (.inl (x2)), some (.inl (x3)), some (.inl (x4)), some (.inl (x5)), some (.inl (0)), none] [] (cm_hp D X) = cm_x 167 23 [some (.inr (.inr 613)), some (.inl (x1)), some (.inl (x2)), some (.inl (x3)), some (.inl (x4)), some (.inl (x5)), some (.inl (20)), none] [] (cm_hp (gF D 621 613 9 f (n + 20)) X) := by
    have z := L
    rw [Int.add_zero, ← hn, gF_id, hn] at z
    exact z
  rw [L, sg_X9_feed_23, if_neg (by omega), gF_b, u1_eq]
theorem q_feed (hR : R D t) (X : cm_X) {x1 x2 x3 x4 x5 : Int} : MM t D X (fun H => cm_x 101 0 [some (.inr (.inr 0)), some (.inl (x1)), some (.inl (x2)), some (.inl (x3)), some (.inl (x4)), some (.inl (x5))] [] H) (fun H => cm_x 167 0 [some (.inr (.inr 613)), some (.inl (x1)), some (.inl (x2)), some (.inl (x3)), some (.inl (x4)), some (.inl (x5)), none, none] [] H) := by
  obtain ⟨t1, t2, t3, t4, t5, t6⟩ := hR.2.2.2.1
  by_cases h7 : 700 < D 0 1 + 20
  · refine MM_s (v := -1) hR (fun X => ?_) (fun X => ?_)
    · show cm_x 101 0 [some (.inr (.inr 0)), some (.inl (x1)), some (.inl (x2)), some (.inl (x3)), some (.inl (x4)), some (.inl (x5))] [] (cm_hp D X) = _
      rw [sg_X8_feed_0, cm_wr_id (by omega) (by omega), if_pos h7]
    · show cm_x 167 0 [some (.inr (.inr 613)), some (.inl (x1)), some (.inl (x2)), some (.inl (x3)), some (.inl (x4)), some (.inl (x5)), none, none] [] (cm_hp D X) = _
      rw [sg_X9_feed_0, t1, cm_wr_id (by omega) (by omega), if_pos h7]
  · obtain ⟨f, a1, p1⟩ := ev_feed (D := D) (X := X) (x1 := x1) (x2 := x2) (x3 := x3) (x4 := x4) (x5 := x5) rfl t2.1 (by omega)
    refine ⟨D 0 1 + 20, gF D 1 0 1 f (D 0 1 + 20), a1, fun Y => ?_⟩
    generalize hD1 : gF D 1 0 1 f (D 0 1 + 20) = D1
    have o1 : ∀ x : Nat, x ≠ 1 → x ≠ 0 → D1 x = D x := fun x a b => by rw [← hD1, gF_o a b]
    have r0 : D1 0 = cm_u1 (D 0) 1 (D 0 1 + 20) := by rw [← hD1, gF_b]
    have r1 : D1 1 = f := by rw [← hD1, gF_a (by omega)]
    have z9 : (cm_up D1 613 0 0) 613 9 = D 0 1 := by
      show D1 613 9 = _
      rw [o1 _ (by omega) (by omega), t1]
    obtain ⟨g, a2, p2⟩ := ev_mFeed (D := cm_up D1 613 0 0) (X := Y) (x1 := x1) (x2 := x2) (x3 := x3) (x4 := x4) (x5 := x5) z9 t2.1 (by omega)
    have z621 : (cm_up D1 613 0 0) 621 = D 621 := by rw [up_row (by omega), o1 _ (by omega) (by omega)]
    rw [z621] at p2
    refine ⟨gF (cm_up D1 613 0 0) 621 613 9 g (D 0 1 + 20), ?_, ?_, ?_⟩
    · show cm_x 167 0 [some (.inr (.inr 613)), some (.inl x1), some (.inl x2), some (.inl x3), some (.inl x4), some (.inl x5), none, none] [] (cm_hp D1 Y) = _
      rw [sg_X9_feed_0, o1 613 (by omega) (by omega), t1, cm_wr_id (by omega) (by omega), if_neg h7, a2]
    · generalize hE : gF (cm_up D1 613 0 0) 621 613 9 g (D 0 1 + 20) = E
      have oE : ∀ x : Nat, x ≠ 621 → x ≠ 613 → E x = D1 x := fun x a b => by rw [← hE, gF_o a b, up_row b]
      have rE : E 613 = cm_u1 (cm_u1 (D 613) 0 0) 9 (D 0 1 + 20) := by rw [← hE, gF_b, up_same, o1 _ (by omega) (by omega)]
      have rg : E 621 = g := by rw [← hE, gF_a (by omega)]
      refine R_eq2 (D := D) ⟨fun a ha => ?_, ?_, ?_, ?_, ?_, ?_⟩ ?_ ?_ hR
      · unfold cRow2 at ha
        rw [oE a (by omega) (by omega), o1 a (by omega) (by omega)]
      · rw [oE 9 (by omega) (by omega), o1 9 (by omega) (by omega)]; exact ⟨rfl, rfl, rfl, rfl⟩
      · rw [rE]; rfl
      · rw [rE]; rfl
      · rw [rE]; rfl
      · rw [rE]; rfl
      · unfold tR
        rw [rE, rg, oE 0 (by omega) (by omega), oE 1 (by omega) (by omega), oE 616 (by omega) (by omega), r0, r1, o1 616 (by omega) (by omega)]
        refine ⟨rfl, ?_, t3, fun j j0 j1 => ?_, t5, t6⟩
        · show 0 ≤ D 0 1 + 20 ∧ D 0 1 + 20 ≤ 700
          omega
        · rw [p1, p2]
          by_cases hj : D 0 1 ≤ j ∧ j < D 0 1 + 20
          · rw [if_pos hj, if_pos hj]
            exact ⟨rfl, by_b _⟩
          · rw [if_neg hj, if_neg hj]
            exact t4 j j0 j1
      · have := hR.2.2.2.2
        unfold lkOk at *
        rw [oE 9 (by omega) (by omega), oE 14 (by omega) (by omega), o1 9 (by omega) (by omega), o1 14 (by omega) (by omega)]
        exact ⟨⟨this.1.1, by have := this.1.2; omega⟩, this.2⟩
    · rw [gF_o (by omega) (by omega), up_row (by omega), o1 _ (by omega) (by omega)]
