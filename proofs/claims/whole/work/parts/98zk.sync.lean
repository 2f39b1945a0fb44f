/-! a sync that can be begun, one that is torn: both -/
variable {C C2 D E E2 F : Nat → Int → Int} {X Y : cm_X} {S : Nat → Int → Int} {L : List CT} {h pk t : Int}
/-- the disc behind a writing -/
theorem jO_d {v w : Int} {C1 : Nat → Int → Int} (hz : zOk C2) (h9 : C2 9 1 = C 9 1) (hh : C2 15 9 ≤ C2 9 0) (h0 : 0 ≤ C 15 9) (hj : jO S L (C 15 9) (E 619) (E 620) (C 9 1) v w C2 E2) : dOk C2 (E2 619) (E2 620) (C2 15 9) := by
  obtain ⟨j1, ⟨j2, j3⟩, ⟨j4, j5⟩, -⟩ := hj
  exact ⟨hz, j2, by rw [h9]; exact j3, hh, by omega⟩
theorem wr_mnt {v w : Int} {C1 : Nat → Int → Int} (h2 : R2 C E) (p3 : ∀ x : Nat, x < 22 ∨ 26 ≤ x → C1 x = C x) (r2 : cFr C1 C2) (r3 : zOk C2) (r4 : C2 15 9 ≤ C2 9 0) (r5 : i32 (C2 15 10)) (s2 : wfr (cm_up E 613 27 0) E2) (s3 : jO S L (C 15 9) (E 619) (E 620) (C 9 1) v w C2 E2) : ∃ m C' E', cm_x 134 0 [some (.inr (.inr 0))] [] (cm_hp C2 X) = some (.inl none, cm_hp C' X) ∧ cm_x 187 0 [some (.inr (.inr 613)), some (.inl (400)), none] [] (cm_hp E2 Y) = some (.inl (some (.inl m)), cm_hp E2 Y) ∧ cm_x 193 0 [some (.inr (.inr 613)), some (.inl (m)), none, none] [] (cm_hp E2 Y) = some (.inl none, cm_hp E' Y) ∧ R2 C' E' ∧ fr2 C C' ∧ mFr E E' ∧ E' 613 27 = C' 15 9 - C 15 9 ∧ C 15 9 ≤ C' 15 9 ∧ eqB (C 15 9) (E 619) (E 620) (E' 619) (E' 620) := by
  obtain ⟨⟨hz, hd2, hd3, hd4, hd5⟩, e9, hf, ⟨e4, e15, e21⟩, hr, hw⟩ := h2
  have cfr : ∀ x : Nat, x < 11 ∨ x = 14 ∨ 26 ≤ x → C2 x = C x := fun x hx => by rw [r2.2.2 x (by omega) (by omega) (by omega) (by omega) (by omega) (by omega), p3 x (by omega)]
  have c9 := cfr 9 (by omega)
  have hdk := jO_d (C1 := C1) r3 (by rw [c9]) r4 hd5 s3
  obtain ⟨j1, j2, ⟨j4, j5⟩, -⟩ := s3
  obtain ⟨a1, a2, a3, a4, a5, a6, a7⟩ := s2
  have efr : ∀ x : Nat, x ≠ 613 → x ≠ 617 → x ≠ 619 → x ≠ 620 → x ≠ 624 → E2 x = E x := fun x h1 h3 h4 h5 h6 => by rw [a7 x h1 h3 h4 h5 h6, up_row h1]
  have x614 := efr 614 (by omega) (by omega) (by omega) (by omega) (by omega)
  have x615 := efr 615 (by omega) (by omega) (by omega) (by omega) (by omega)
  obtain ⟨m, C', f, t1, t2, t3, t4, t5, t6, t7⟩ := mt_2 (X := X) (Y := Y) hdk (by rw [x614, c9]; exact e9 1 (by omega) (by omega)) j1.1 j1.2 r5
  refine ⟨m, C', cm_ua E2 617 f, t1, t4, t5, ⟨?_, fun j y0 y1 => ?_, ?_, ⟨?_, ?_, ?_⟩, t6, ?_⟩, fun x hx => ?_, ⟨fun j hj => ?_, fun x h1 h3 h4 h5 h6 => ?_⟩, ?_, by rw [t3.1]; exact j4, j5⟩
  · show dOk C' (E2 619) (E2 620) (C' 15 9)
    rw [t3.1]
    have q9 := t2 9 (by omega)
    exact dOk_of (by rw [q9]) (by rw [q9]) (by rw [q9]) (by rw [q9]) (t2 11 (by omega)) (t2 12 (by omega)) (t2 13 (by omega)) hdk
  · show E2 614 j = _
    rw [x614, t2 9 (by omega), c9]; exact e9 j y0 y1
  · rw [t2 10 (by omega), t2 614 (by omega), t2 615 (by omega), cfr 10 (by omega), cfr 614 (by omega), cfr 615 (by omega)]; exact hf
  · show E2 614 4 = _
    rw [x614, t2 614 (by omega), cfr 614 (by omega)]; exact e4
  · show E2 615 = _
    rw [x615, t2 615 (by omega), cfr 615 (by omega)]; exact e15
  · show E2 613 21 = -1
    rw [a1 21 (by omega)]; exact e21
  · show wS (C' 9 1) (E2 619) (E2 620) (stt C' 15)
    rw [t2 9 (by omega)]; exact t7
  · rw [t2 x (by omega), cfr x hx]
  · show E2 613 j = _
    rw [a1 j hj, up_same, u1_ne hj]
  · rw [ua_row h3, efr x h1 h3 h4 h5 h6]
  · show E2 613 27 = _
    have q27 : (cm_up E 613 27 0) 613 27 = 0 := rfl
    have q17 : (cm_up E 613 27 0) 617 244 = C 15 9 := hr.2.2.2.2.2.2.1
    rw [q27, q17, j1.1] at a6
    rw [t3.1]
    omega
theorem tr_W (h2 : R2 C E) (hm : mHol E (plC C)) (h26 : E 613 26 = pkB (C 9 1) (cCon C + 1)) {x : Int} (x0 : 0 ≤ x) (x1 : x ≤ 1000000) (X Y : cm_X) : ∃ C' E', cm_x 137 0 [some (.inr (.inr 0)), some (.inl (x))] [] (cm_hp C X) = some (.inl none, cm_hp C' X) ∧ cm_x 213 0 [some (.inr (.inr 613)), some (.inl (x))] [] (cm_hp E Y) = some (.inl none, cm_hp E' Y) ∧ R2 C' E' ∧ fr2 C C' ∧ mFr E E' ∧ E' 613 27 = C' 15 9 - C 15 9 ∧ C 15 9 ≤ C' 15 9 ∧ eqB (C 15 9) (E 619) (E 620) (E' 619) (E' 620) := by
  obtain ⟨C1, v, C2, w, E2, p1, p2, p3, p4, p5, p6, p7, p8, p9, p10, p11⟩ := wr_B (X := X) (Y := Y) h2 hm h26 (lc := x) (mo := x) x0 x1 (Or.inl rfl) x1
  obtain ⟨m, C', E', q1, q2, q3, q4⟩ := wr_mnt (X := X) (Y := Y) h2 p4 p5 p6 p7 p8 p9 p10
  refine ⟨C', E', ?_, ?_, q4⟩
  · rw [sg_X8_writeTorn_0, p1, aft_n, sg_X8_writeTorn_18, p2, aft_v, sg_X8_writeTorn_34, q1, aft_n, sg_X8_writeTorn_39]
  · rw [sg_X9_tearNow_0, p3, aft_v, sg_X9_tearNow_5, q2, aft_v, sg_X9_tearNow_14, q3, aft_n, sg_X9_tearNow_17]
theorem sy_W (h2 : R2 C E) (hm : mHol E (plC C)) (h26 : E 613 26 = pkB (C 9 1) (cCon C + 1)) (X Y : cm_X) : ∃ v C' w E', cm_x 133 0 [some (.inr (.inr 0)), none] [] (cm_hp C X) = some (.inl (some (.inl (v))), cm_hp C' X) ∧ cm_x 211 0 [some (.inr (.inr 613)), none] [] (cm_hp E Y) = some (.inl (some (.inl w)), cm_hp E' Y) ∧ ((v = 1 ∧ w = 0) ∨ (v = 0 ∧ w ≠ 0)) ∧ R2 C' E' ∧ fr2 C C' ∧ mFr E E' ∧ E' 613 27 = C' 15 9 - C 15 9 ∧ C 15 9 ≤ C' 15 9 ∧ eqB (C 15 9) (E 619) (E 620) (E' 619) (E' 620) := by
  obtain ⟨C1, v, C2, w, E2, p1, p2, p3, p4, p5, p6, p7, p8, p9, p10, p11⟩ := wr_B (X := X) (Y := Y) h2 hm h26 (lc := 400) (mo := 1000000) (by omega) (by omega) (Or.inr (by omega)) (by omega)
  have hj := p10
  obtain ⟨j1, ⟨j2, j3⟩, ⟨j4, j5⟩, j6⟩ := p10
  rcases j6 with ⟨v1, w0, k1, k2, k3, k4⟩ | ⟨v0, w0⟩
  · have h2' := h2
    obtain ⟨⟨hz, hd2, hd3, hd4, hd5⟩, e9, hf, ⟨e4, e15, e21⟩, hr, hw⟩ := h2
    obtain ⟨g1, g2, g3, g4, g5, g6, g7, g8⟩ := p11
    have cfr : ∀ x : Nat, x < 11 ∨ x = 14 ∨ 26 ≤ x → C2 x = C x := fun x hx => by rw [p5.2.2 x (by omega) (by omega) (by omega) (by omega) (by omega) (by omega), p4 x (by omega)]
    have cfs : ∀ x : Nat, x = 16 ∨ x = 17 ∨ x = 18 ∨ x = 20 → C2 x = C x := fun x hx => by rw [p5.2.2 x (by omega) (by omega) (by omega) (by omega) (by omega) (by omega), p4 x (by omega)]
    have c9 := cfr 9 (by omega)
    have hdk := jO_d (C1 := C1) p6 (by rw [c9]) p7 hd5 hj
    obtain ⟨a1, a2, a3, a4, a5, a6, a7⟩ := p9
    have efr : ∀ x : Nat, x ≠ 613 → x ≠ 617 → x ≠ 619 → x ≠ 620 → x ≠ 624 → E2 x = E x := fun x h1 h3 h4 h5 h6 => by rw [a7 x h1 h3 h4 h5 h6, up_row h1]
    have x614 := efr 614 (by omega) (by omega) (by omega) (by omega) (by omega)
    have x615 := efr 615 (by omega) (by omega) (by omega) (by omega) (by omega)
    have x17 : ∀ j, 0 ≤ j → j < 244 → E2 617 j = E 617 j := fun j y0 y1 => by rw [a2 j (by omega) (by omega)]; rfl
    have hm2 : mHol E2 (plC C) := ⟨by rw [a1 25 (by omega)]; exact hm.1, fun t x hx => by
      rw [efr 622 (by omega) (by omega) (by omega) (by omega) (by omega), efr 623 (by omega) (by omega) (by omega) (by omega) (by omega)]
      exact hm.2 t x hx⟩
    obtain ⟨g, n1, n2, n3, n4, n5, n6⟩ := ev_mCommit (X := Y) g1 g2 hm2 g8 ⟨E 617, hr, x17⟩
    have hlen := g1.2.2.2.2.2.1
    -- the map
    obtain ⟨nl, xl, l1, l2⟩ := ct_at (L := plC C) (t := ((plC C).length : Int) - 1) (by omega) (by omega)
    have hself := k2 nl xl (by omega) l2
    have hm0 : C 15 9 ≤ C2 15 9 - 1 := by
      have := hself.1.1
      rw [l1, k3] at this
      exact this
    have hdn : dnQ (stt C 15) (plC C) (C 15 9) (E2 624) (E2 619) (E2 620) (C2 15 9 - 1) ((plC C).length - 1) := fun t x ht hx => by
      refine dnX_hd (k2 t x (by omega) hx) ?_
      have := hself.2.2.1 t (by omega)
      rw [l1, k3] at this
      exact this
    have hv : vS (C 9 1) (E2 619) (E2 620) (stt C 15) := vS_eq j5 g6 g7 (Int.le_refl _) g3
    have hb := d_g hdk
    have w1 : cm_wr (C2 15 9 - 1) = C2 15 9 - 1 := by
      have := hb.2.2.2
      exact cm_wr_id (by omega) (by omega)
    obtain ⟨s, s1, s2⟩ := ev_settle0 (D := cm_up C2 15 7 (C2 15 9 - 1)) (X := X)
    generalize hC : cm_up (cm_ua (cm_up C2 15 7 (C2 15 9 - 1)) 18 s) 15 6 0 = C' at s1
    have q15 : C' 15 = cm_u1 (cm_u1 (C2 15) 7 (C2 15 9 - 1)) 6 0 := by rw [← hC]; rfl
    have q18 : C' 18 = s := by rw [← hC]; rfl
    have qx : ∀ x : Nat, x ≠ 15 → x ≠ 18 → C' x = C2 x := fun x h1 h3 => by rw [← hC, up_row h1, ua_row h3, up_row h1]
    have q159 : C' 15 9 = C2 15 9 := by rw [q15, u1_ne (by omega), u1_ne (by omega)]
    have q1510 : C' 15 10 = C2 15 10 := by rw [q15, u1_ne (by omega), u1_ne (by omega)]
    have q158 : C' 15 8 = C 15 8 := by
      rw [q15, u1_ne (by omega), u1_ne (by omega), p5.1 8 (by omega) (by omega), p4 15 (by omega)]
    have c2w : ∀ n, 0 ≤ n → n < 12 → stt C' 15 1 n = stt C 15 1 n ∧ stt C' 15 2 n = stt C 15 2 n ∧ stt C' 15 3 n = 0 := fun n n0 n1 => by
      refine ⟨?_, ?_, ?_⟩
      · show C' 16 n = C 16 n
        rw [qx 16 (by omega) (by omega), cfs 16 (by omega)]
      · show C' 17 n = C 17 n
        rw [qx 17 (by omega) (by omega), cfs 17 (by omega)]
      · show C' 18 n = 0
        rw [q18]; exact s2 n n0 n1
    have hwS : wS (C 9 1) (E2 619) (E2 620) (stt C' 15) := by
      refine st_ok (S := stt C 15) (m := C2 15 9 - 1) g1 g2 g5 hv rfl hm0 hdn k4 k1 c2w (fun y _ _ => ?_) (fun v _ _ => ?_) ?_ ?_ ?_ ?_
      · show C' 19 y = _
        rw [qx 19 (by omega) (by omega)]
      · show C' 21 v = _
        rw [qx 21 (by omega) (by omega)]
      · show C' 15 6 = 0
        rw [q15, u1_eq]
      · show C' 15 7 = _
        rw [q15, u1_ne (by omega), u1_eq]
      · show C' 15 9 = _
        rw [q159]; omega
      · show i32 (C' 15 10)
        rw [q1510]; exact p8
    have hrS : rS (stt C' 15) g := by
      obtain ⟨r1, r2, r3, r4, r5, r6, r7, r8⟩ := hr
      refine ⟨fun n n0 n1 => ?_, fun n c n0 n1 c0 c1 => ?_, fun v v0 v1 => ?_, ?_, ?_, ?_, ?_, ?_⟩
      · obtain ⟨y1, y2, y3⟩ := c2w n n0 n1
        rw [y1, y2, y3, n6 n (by omega) (by omega), n6 (12 + n) (by omega) (by omega), n4 n n0 n1, x17 n n0 (by omega), x17 (12 + n) (by omega) (by omega)]
        exact ⟨(r1 n n0 n1).1, (r1 n n0 n1).2.1, rfl⟩
      · rw [(c2w n n0 n1).2.1] at c1
        have hl := (g2.2.1 n n0 n1).2.1
        have e36 : g (36 + 8 * n + c) = C2 19 (n * 8 + c) := by
          have := plQ_a n2 k1 (y := n * 8 + c) (by omega) (by omega) (by
            rw [x17 _ (by omega) (by omega), show 36 + (n * 8 + c) = 36 + 8 * n + c by omega]
            exact (r2 n c n0 n1 c0 c1).1)
          rw [show 36 + (n * 8 + c) = 36 + 8 * n + c by omega] at this
          exact this
        refine ⟨?_, ?_⟩
        · show _ = C' 19 _
          rw [e36, qx 19 (by omega) (by omega)]
        · show _ = C' 20 _
          rw [n6 _ (by omega) (by omega), x17 _ (by omega) (by omega), qx 20 (by omega) (by omega), cfs 20 (by omega)]
          exact (r2 n c n0 n1 c0 c1).2
      · have := plQ_b n2 k1 (v := v) v0 v1 (by
          rw [x17 _ (by omega) (by omega)]
          exact r3 v v0 v1)
        show _ = C' 21 v
        rw [qx 21 (by omega) (by omega)]
        exact this
      · show g 241 = C' 15 6
        rw [n5, q15, u1_eq]
      · show g 242 = C' 15 7
        rw [n3, k3, q15, u1_ne (by omega), u1_eq]
      · show g 243 = C' 15 8
        rw [n6 _ (by omega) (by omega), x17 _ (by omega) (by omega), q158]; exact r6
      · show g 244 = C' 15 9
        rw [n6 _ (by omega) (by omega), q159]; exact j1.1
      · show g 245 = C' 15 10
        rw [n6 _ (by omega) (by omega), q1510]; exact j1.2
    refine ⟨1, C', 0, cm_ua E2 617 g, ?_, ?_, Or.inl ⟨rfl, rfl⟩, ⟨?_, fun j y0 y1 => ?_, ?_, ⟨?_, ?_, ?_⟩, hrS, ?_⟩, fun x hx => ?_, ⟨fun j hj => ?_, fun x h1 h3 h4 h5 h6 => ?_⟩, ?_, by rw [q159]; omega, j5⟩
    · rw [sg_X8_writeAll_0, p1, aft_n, sg_X8_writeAll_18, p2, aft_v, v1, sg_X8_writeAll_36, if_neg (by omega), w1, sg_X6_settle_0, s1, aft_n, sg_X6_settle_9, aft_n, sg_X8_writeAll_57, sg_X8_writeAll_64, ck_t (by omega)]
    · rw [sg_X9_syncNow_0, p3, aft_v, w0, sg_X9_syncNow_7, if_pos rfl, n1, aft_n, sg_X9_syncNow_16, sg_X9_syncNow_30]
    · show dOk C' (E2 619) (E2 620) (C' 15 9)
      rw [q159]
      have q9 := qx 9 (by omega) (by omega)
      exact dOk_of (by rw [q9]) (by rw [q9]) (by rw [q9]) (by rw [q9]) (qx 11 (by omega) (by omega)) (qx 12 (by omega) (by omega)) (qx 13 (by omega) (by omega)) hdk
    · show E2 614 j = _
      rw [x614, qx 9 (by omega) (by omega), c9]; exact e9 j y0 y1
    · rw [qx 10 (by omega) (by omega), qx 614 (by omega) (by omega), qx 615 (by omega) (by omega), cfr 10 (by omega), cfr 614 (by omega), cfr 615 (by omega)]; exact hf
    · show E2 614 4 = _
      rw [x614, qx 614 (by omega) (by omega), cfr 614 (by omega)]; exact e4
    · show E2 615 = _
      rw [x615, qx 615 (by omega) (by omega), cfr 615 (by omega)]; exact e15
    · show E2 613 21 = -1
      rw [a1 21 (by omega)]; exact e21
    · show wS (C' 9 1) (E2 619) (E2 620) (stt C' 15)
      rw [qx 9 (by omega) (by omega), c9]; exact hwS
    · rw [qx x (by omega) (by omega), cfr x hx]
    · show E2 613 j = _
      rw [a1 j hj, up_same, u1_ne hj]
    · rw [ua_row h3, efr x h1 h3 h4 h5 h6]
    · show E2 613 27 = _
      have q27 : (cm_up E 613 27 0) 613 27 = 0 := rfl
      have q17 : (cm_up E 613 27 0) 617 244 = C 15 9 := hr.2.2.2.2.2.2.1
      rw [q27, q17, j1.1] at a6
      rw [q159]
      omega
  · obtain ⟨m, C', E', q1, q2, q3, q4⟩ := wr_mnt (X := X) (Y := Y) h2 p4 p5 p6 p7 p8 p9 hj
    refine ⟨0, C', w, E', ?_, ?_, Or.inr ⟨rfl, w0⟩, q4⟩
    · rw [sg_X8_writeAll_0, p1, aft_n, sg_X8_writeAll_18, p2, aft_v, v0, sg_X8_writeAll_36, if_pos rfl, q1, aft_n, sg_X8_writeAll_64, ck_t (by omega)]
    · rw [sg_X9_syncNow_0, p3, aft_v, sg_X9_syncNow_7, if_neg w0, q2, aft_v, sg_X9_syncNow_27, q3, aft_n, sg_X9_syncNow_30]
