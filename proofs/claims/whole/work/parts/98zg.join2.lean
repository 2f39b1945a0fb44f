/-! a writing: both, to its end -/
variable {C C2 E F : Nat → Int → Int} {X Y : cm_X} {S : Nat → Int → Int} {L : List CT} {K0 B0 f a b : Int → Int} {h0 pk P : Int}
/-- all packets are written -/
theorem jn_end {y3 lc tn q mo p : Int} (hLP : (L.length : Int) = pk * P) (hw : wC S L C) (hp : p = P) (tn1 : tn < 400) : cm_x 9 9 [some (.inr (.inr 22)), some (.inr (.inr 15)), some (.inr (.inr 9)), some (.inl (y3)), some (.inl (lc)), some (.inl (pk * p)), some (.inl (tn)), none, none, none, none] [] (cm_hp C X) = some (.inl (some (.inl (1))), cm_hp C X) ∧ (jE S L h0 K0 B0 pk P lc p q mo C E → cm_x 209 21 [some (.inr (.inr 613)), some (.inl (mo)), some (.inl (C 9 2 + C 9 1)), some (.inl (p)), none, none] [] (cm_hp E Y) = some (.inl (some (.inl 0)), cm_hp E Y) ∧ (C 9 1 = pk → jO S L h0 K0 B0 pk 1 0 C E)) := by
  have h22 : C 22 3 = L.length := hw.1.1
  refine ⟨by rw [sg_X1_lay_9, if_pos tn1, h22, hp, if_neg (by omega)], fun hj => ?_⟩
  obtain ⟨j1, j2, j3, j4, j5, j6, j7, j8⟩ := hj
  rw [hp] at j3 j4
  have hq : q = L.length := by omega
  rw [hq] at j2
  rw [← hLP] at j4
  refine ⟨by rw [sg_X9_writeAll_21, if_neg (by omega)], fun hpk => ?_⟩
  have jv := j1.2.2.2.1.2
  rw [hpk] at jv
  exact ⟨j1.2.2.1, ⟨j1.2.2.2.1.1, jv⟩, j1.2.2.2.2, Or.inl ⟨rfl, rfl, j2, j4, j5 hp⟩⟩
/-- no room for one more packet -/
theorem jn_brk {y3 lc tn q mo p : Int} (hLP : (L.length : Int) = pk * P) (pk0 : 2 ≤ pk) (hw : wC S L C) (hp : p < P) (tn1 : tn < 400) (hr : ¬ rm C (C 15 9)) : cm_x 9 9 [some (.inr (.inr 22)), some (.inr (.inr 15)), some (.inr (.inr 9)), some (.inl (y3)), some (.inl (lc)), some (.inl (pk * p)), some (.inl (tn)), none, none, none, none] [] (cm_hp C X) = some (.inl (some (.inl (0))), cm_hp C X) ∧ (jE S L h0 K0 B0 pk P lc p q mo C E → ∃ w, cm_x 209 21 [some (.inr (.inr 613)), some (.inl (mo)), some (.inl (C 9 2 + C 9 1)), some (.inl (p)), none, none] [] (cm_hp E Y) = some (.inl (some (.inl w)), cm_hp E Y) ∧ (C 9 1 = pk → jO S L h0 K0 B0 pk 0 w C E)) := by
  have h22 : C 22 3 = L.length := hw.1.1
  have hpm : pk * p + pk ≤ pk * P := by
    have h1 : pk * (p + 1) ≤ pk * P := Int.mul_le_mul_of_nonneg_left (by omega) (by omega)
    rw [Int.mul_add, Int.mul_one] at h1
    exact h1
  obtain ⟨w1, -, w7, w8, w9, w10⟩ := hw
  have hz := w7
  obtain ⟨z1, z2, z3, z4, z5⟩ := w7
  refine ⟨by rw [sg_X1_lay_9, if_pos tn1, h22, if_pos (by omega), ev_room hz w9 (by omega), aft_v, sg_X1_lay_34, tv_f hr, if_pos rfl], fun hj => ?_⟩
  obtain ⟨j1, j2, j3, j4, j5, j6, j7, j8⟩ := hj
  have jo : ∀ w : Int, w ≠ 0 → C 9 1 = pk → jO S L h0 K0 B0 pk 0 w C E := fun w hw0 hpk => by
    have jv := j1.2.2.2.1.2
    rw [hpk] at jv
    exact ⟨j1.2.2.1, ⟨j1.2.2.2.1.1, jv⟩, j1.2.2.2.2, Or.inr ⟨rfl, hw0⟩⟩
  by_cases ht : E 613 27 = mo
  · refine ⟨2, ?_, jo 2 (by omega)⟩
    rw [sg_X9_writeAll_21, if_pos (by omega), sg_X9_writeAll_32, if_neg (by omega), ev_tornY ht, aft_v, sg_X9_writeAll_42, if_neg (by omega)]
  · refine ⟨1, ?_, jo 1 (by omega)⟩
    have e244 : E 617 244 = C 15 9 := j1.2.2.1.1
    have q0 := j1.2.1.1 0 (by omega) (by omega)
    have q3 := j1.2.1.1 3 (by omega) (by omega)
    unfold rm at hr
    rw [sg_X9_writeAll_21, if_pos (by omega), sg_X9_writeAll_32, if_neg (by omega), ev_tornN ht, aft_v, sg_X9_writeAll_42, if_pos rfl, e244, q0, q3, cm_wr_id (x := C 15 9 + (C 9 2 + C 9 1)) (by omega) (by omega), cm_wr_id (by omega) (by omega), if_pos (by omega)]
/-- the reference: one packet -/
theorem jm_pkt {lc q mo p m : Int} (hx : fxd S L (C 9 1) h0 K0 B0) (hLP : (L.length : Int) = C 9 1 * P) (hw : wC S L C) (p0 : 0 ≤ p) (hp : p < P) (hr : rm C (C 15 9)) (l0 : 0 ≤ lc) (hm : cm_mn (C 9 2 + C 9 1) lc = m) (hj : jE S L h0 K0 B0 (C 9 1) P lc p q mo C E) (ht : E 613 27 ≠ mo) : ∃ m1 m2 s G f, cm_x 209 21 [some (.inr (.inr 613)), some (.inl (mo)), some (.inl (C 9 2 + C 9 1)), some (.inl (p)), none, none] [] (cm_hp E Y) = cm_x 209 89 [some (.inr (.inr 613)), some (.inl (mo)), some (.inl (C 9 2 + C 9 1)), some (.inl (p)), some (.inl (1)), some (.inl (E 613 27 + (C 9 2 + C 9 1)))] [.inl s] (cm_hp G Y) ∧ (∀ t, f t = if C 9 1 * p ≤ t ∧ t < C 9 1 * p + E 614 1 then E 617 244 + m1 + (t - C 9 1 * p) else E 624 t) ∧ pktW E G (C 9 1 * p) m1 m2 s f ∧ (m = m1 + m2 ∧ 0 ≤ m1 ∧ m1 ≤ C 9 2 ∧ 0 ≤ m2 ∧ m2 ≤ C 9 1 ∧ (0 < m2 → m1 = C 9 2)) := by
  obtain ⟨j1, j2, j3, j4, j5, j6, j7, j8, j9, j10⟩ := hj
  obtain ⟨w1, -, ⟨z1, z2, z3, z4, z5⟩, w8, w9, w10⟩ := hw
  have hr' : C 15 9 + (C 9 2 + C 9 1) + C 9 3 ≤ C 9 0 := hr
  have hpm : C 9 1 * p + C 9 1 ≤ C 9 1 * P := by
    have h1 : C 9 1 * (p + 1) ≤ C 9 1 * P := Int.mul_le_mul_of_nonneg_left (by omega) (by omega)
    rw [Int.mul_add, Int.mul_one] at h1
    exact h1
  have hp0 : 0 ≤ C 9 1 * p := Int.mul_nonneg (by omega) p0
  have hlen := hx.2.2.2.2.2.2.2
  have e244 : E 617 244 = C 15 9 := j1.2.2.1.1
  have q0 := j1.2.1.1 0 (by omega) (by omega)
  have q1 := j1.2.1.1 1 (by omega) (by omega)
  have q2 := j1.2.1.1 2 (by omega) (by omega)
  have q3 := j1.2.1.1 3 (by omega) (by omega)
  have q4 := j1.2.1.2.1
  have h25 : E 613 25 = L.length := j1.1.1.1
  have hf12 := w8.2.2
  have hmv : m ≤ C 9 2 + C 9 1 ∧ 0 ≤ m ∧ E 613 27 + m ≤ mo ∧ (m < C 9 2 + C 9 1 → E 613 27 + m = mo) := by
    rw [← hm]
    unfold cm_mn
    split
    · rcases j6 with j6 | j6
      · omega
      · omega
    · rcases j6 with j6 | j6
      · omega
      · omega
  have m12 : ∃ m1 m2, m = m1 + m2 ∧ 0 ≤ m1 ∧ m1 ≤ C 9 2 ∧ 0 ≤ m2 ∧ m2 ≤ C 9 1 ∧ (0 < m2 → m1 = C 9 2) := by
    by_cases h : m ≤ C 9 2
    · exact ⟨m, 0, by omega, by omega, h, by omega, by omega, fun z => by omega⟩
    · exact ⟨C 9 2, m - C 9 2, by omega, by omega, by omega, by omega, by omega, fun _ => rfl⟩
  obtain ⟨m1, m2, hh⟩ := m12
  have h12 := hh.2.2.2.2.2
  obtain ⟨s, G, f, L1, pf, P1⟩ := ev_packet (E := E) (X := Y) (p := p) (mo := mo) (t0 := C 9 1 * p) (m1 := m1) (m2 := m2) (by rw [q1]) hp0 (by omega) (by omega) (by omega) (by omega) (by omega) (by omega) j10 (by omega) (by omega) (by omega) (by omega) (by omega) (fun z => by
    by_cases hm2 : 0 < m2
    · have := h12 hm2; omega
    · omega) (fun z => by omega) (by omega) (by omega) (by omega) (by omega) (fun j y0 y1 => okT_h hx j1.1.1 j1.1.2 (by omega) (by omega))
  refine ⟨m1, m2, s, G, f, ?_, pf, P1, hh⟩
  rw [sg_X9_writeAll_21, if_pos (by omega), sg_X9_writeAll_32, if_neg (by omega), ev_tornN ht, aft_v, sg_X9_writeAll_42, if_pos rfl, e244, q0, q3, cm_wr_id (x := C 15 9 + (C 9 2 + C 9 1)) (by omega) (by omega), cm_wr_id (x := C 15 9 + (C 9 2 + C 9 1) + C 9 3) (by omega) (by omega), if_neg (by omega), cm_wr_id (x := E 613 27 + (C 9 2 + C 9 1)) (by omega) (by omega), L1, aft_v]
/-- the relation over a written packet -/
theorem jw_pkt {lc q mo p m m1 m2 s u : Int} {G C3 : Nat → Int → Int} (hx : fxd S L (C 9 1) h0 K0 B0) (hw : wC S L C) (hj : jE S L h0 K0 B0 (C 9 1) P lc p q mo C E) (t00 : 0 ≤ C 9 1 * p) (t01 : C 9 1 * p + C 9 1 ≤ (L.length : Int)) (hpl : plQ (S 1) (S 4) (S 6) L (C 9 1 * p + C 9 1) (upf (E 624) (C 9 1 * p) (C 9 1 * p + C 9 1) (C 15 9 + C 9 2)) a b) (hb : bkW (r92 C (a, b)) C2 (C 9 1 * p) m) (hk : pktW E G (C 9 1 * p) m1 m2 s f) (hf : ∀ t, f t = if C 9 1 * p ≤ t ∧ t < C 9 1 * p + E 614 1 then E 617 244 + m1 + (t - C 9 1 * p) else E 624 t) (hh : m = m1 + m2 ∧ 0 ≤ m1 ∧ m1 ≤ C 9 2 ∧ 0 ≤ m2 ∧ m2 ≤ C 9 1 ∧ (0 < m2 → m1 = C 9 2)) (hroom : C 15 9 + (C 9 2 + C 9 1) ≤ 400) (e3 : ∀ x : Nat, x ≠ 15 → C3 x = C2 x) (e15 : C3 15 9 = C2 15 9) (e10 : C3 15 10 = u) : wJ S L h0 K0 B0 C3 (cm_up G 617 245 u) := by
  obtain ⟨j1, j2, j3, j4, j5, j6, j7, j8, j9, j10⟩ := hj
  obtain ⟨hm, m10, m1r, m20, m2k, h12⟩ := hh
  have r1 := pk_rDk hx hw j1 t00 t01 hpl hb hk hf hm m10 m1r m20 m2k h12 hroom
  have r2 := pk_vDk hx hw j1 t00 t01 hpl hb hk hf hm m10 m1r m20 m2k h12 hroom j4
  have r3 := pkd_eq hx hw j1 t00 t01 hpl hb hk hf hm m10 m1r m20 m2k h12 hroom
  have wf := pkt_fr hk m10 m20
  obtain ⟨a1, a2, a3, a4, a5, a6, a7⟩ := wf
  obtain ⟨q1, q2, q3, q4, q5, q6⟩ := hb
  have d15 : (r92 C (a, b)) 15 9 = C 15 9 := rfl
  have d9 : (r92 C (a, b)) 9 = C 9 := rfl
  have c9 : C3 9 = C 9 := by rw [e3 9 (by omega), q6 9 (by omega) (by omega) (by omega) (by omega)]; rfl
  have c614 : C3 614 = C 614 := by rw [e3 614 (by omega), q6 614 (by omega) (by omega) (by omega) (by omega)]; rfl
  have c615 : C3 615 = C 615 := by rw [e3 615 (by omega), q6 615 (by omega) (by omega) (by omega) (by omega)]; rfl
  have g614 : G 614 = E 614 := a7 614 (by omega) (by omega) (by omega) (by omega) (by omega)
  have g615 : G 615 = E 615 := a7 615 (by omega) (by omega) (by omega) (by omega) (by omega)
  have g622 : G 622 = E 622 := a7 622 (by omega) (by omega) (by omega) (by omega) (by omega)
  have g623 : G 623 = E 623 := a7 623 (by omega) (by omega) (by omega) (by omega) (by omega)
  have h244 : E 617 244 = C 15 9 := j1.2.2.1.1
  have g244 : G 617 244 = C 15 9 + m := by rw [hk.1, u1_eq, h244, hm]; omega
  have c159 : C3 15 9 = C 15 9 + m := by rw [e15, q1, u1_eq, d15]
  have u619 : (cm_up G 617 245 u) 619 = G 619 := rfl
  have u620 : (cm_up G 617 245 u) 620 = G 620 := rfl
  refine ⟨⟨⟨?_, fun t x h => ?_⟩, ?_⟩, ⟨fun j y0 y1 => ?_, ?_, ?_, ?_⟩, ⟨?_, ?_⟩, ⟨?_, ?_⟩, ?_, ?_⟩
  · show G 613 25 = _
    rw [a1 25 (by omega)]; exact j1.1.1.1
  · show G 622 t = _ ∧ G 623 t = _
    rw [g622, g623]; exact j1.1.1.2 t x h
  · obtain ⟨r, z1, z2⟩ := j1.1.2
    refine ⟨r, z1, fun j y0 y1 => ?_⟩
    rw [up_same, u1_ne (by omega), a2 j (by omega) (by omega)]
    exact z2 j y0 y1
  · show G 614 j = _
    rw [g614, c9]; exact j1.2.1.1 j y0 y1
  · show G 614 4 = _
    rw [g614, c614]; exact j1.2.1.2.1
  · show G 615 = _
    rw [g615, c615]; exact j1.2.1.2.2.1
  · show G 613 21 = -1
    rw [a1 21 (by omega)]; exact j1.2.1.2.2.2
  · rw [up_same, u1_ne (by omega), g244, c159]
  · rw [up_same, u1_eq, e10]
  · rw [c159, e3 11 (by omega), e3 12 (by omega), e3 13 (by omega), u619, u620]; exact r1
  · rw [c159, c9, u619, u620]; exact r2
  · rw [c159]
    have := j1.2.2.2.2.1
    omega
  · rw [u619, u620]
    exact eqB_tr j1.2.2.2.2.2 (eqB_le r3 j1.2.2.2.2.1)
