/-! one packet is written: the reference, the whole -/
variable {D E : Nat → Int → Int} {X : cm_X} {K B K' B' A : Int → Int} {h pk c : Int} {S : Nat → Int → Int} {r : Int → Int}
theorem ev_conts {p mo x t0 m2 : Int} (ht : E 614 1 * p = t0) (h0 : 0 ≤ E 617 244) (m0 : 0 ≤ m2) (m2k : m2 ≤ E 614 1) (h4 : E 617 244 + E 614 1 ≤ 400) (w0 : 0 ≤ E 613 27) (w1 : E 613 27 + m2 ≤ mo) (mt : m2 < E 614 1 → E 613 27 + m2 = mo) (w2 : mo ≤ 1000000) (c0 : 0 ≤ E 613 25) (c1 : E 613 25 ≤ 126) (f0 : 0 ≤ E 614 4) (f1 : E 614 4 ≤ 12) (ok : ∀ j, 0 ≤ j → j < E 614 1 → okT E (t0 + j)) : ∃ s F, cm_x 208 87 [some (.inr (.inr 613)), some (.inl (p)), some (.inl (mo)), some (.inl (0)), some (.inl (x)), some (.inl (0)), none, none] [] (cm_hp E X) = some (.inl (some (.inl (s))), cm_hp F X) ∧ pkW E F t0 m2 s := by
  obtain ⟨⟨s, F⟩, L, P⟩ := lp_inv (X := fun j (q : Int × (Nat → Int → Int)) => cm_x 208 87 [some (.inr (.inr 613)), some (.inl (p)), some (.inl (mo)), some (.inl (q.1)), some (.inl (x)), some (.inl (j)), none, none] [] (cm_hp (q.2) X)) (P := fun j (q : Int × (Nat → Int → Int)) => pkW E q.2 t0 j q.1) (lo := 0) (hi := m2) (fun j q j0 j1 hP => by
    obtain ⟨s', F', a, b⟩ := pk_step (X := X) (p := p) (mo := mo) (x := x) ht h0 j0 (by omega) h4 w0 (by omega) w2 c0 c1 f0 f1 (ok j j0 (by omega)) hP
    exact ⟨(s', F'), a, b⟩) (0, E) m0 pkW_0
  have L : cm_x 208 87 [some (.inr (.inr 613)), some (.inl (p)), some (.inl (mo)), some (.inl (0)), some (.inl (x)), some (.inl (0)), none, none] [] (cm_hp E X) = cm_x 208 87 [some (.inr (.inr 613)), some (.inl (p)), some (.inl (mo)), some (.inl (s)), some (.inl (x)), some (.inl (m2)), none, none] [] (cm_hp F X) := L
  have P : pkW E F t0 m2 s := P
  refine ⟨s, F, ?_, P⟩
  obtain ⟨p1, p2, p3, p4, p5, p6⟩ := P
  rw [L, sg_X9_writePacket_87, p6 614 (by omega) (by omega) (by omega) (by omega)]
  by_cases hq : m2 < E 614 1
  · rw [if_pos hq, ev_tornY (by rw [p1.2.1]; exact mt hq), aft_v, sg_X9_writePacket_103, if_neg (by omega), ck_t p2]
  · rw [if_neg hq, ck_t p2]
/-- what a packet leaves: m1 links, m2 contents -/
def pktW (E F : Nat → Int → Int) (t0 m1 m2 s : Int) (f : Int → Int) : Prop :=
  F 617 = cm_u1 (E 617) 244 (E 617 244 + m1 + m2) ∧ F 613 27 = E 613 27 + m1 + m2 ∧ (∀ j, j ≠ 27 → F 613 j = E 613 j) ∧ (∀ b, F 619 b = if E 617 244 ≤ b ∧ b < E 617 244 + m1 then 1 else if E 617 244 + m1 ≤ b ∧ b < E 617 244 + m1 + m2 then kdX E (E 617 244 + m1) t0 b else E 619 b) ∧ (s = 0 ∨ s = 1) ∧ (s = 1 ↔ ∃ b, E 617 244 + m1 ≤ b ∧ b < E 617 244 + m1 + m2 ∧ fltX E b) ∧ (∀ y, E 617 244 + m1 ≤ y → y < E 617 244 + m1 + m2 → ¬ fltX E y → ∀ i, 0 ≤ i → i < 15 → F 620 (15 * y + i) = bodM (cm_ua E 624 f) (t0 + (y - (E 617 244 + m1))) i) ∧ (∀ y, y < 15 * (E 617 244 + m1) ∨ 15 * (E 617 244 + m1 + m2) ≤ y → F 620 y = E 620 y) ∧ F 624 = f ∧ ∀ a : Nat, a ≠ 613 → a ≠ 617 → a ≠ 619 → a ≠ 620 → a ≠ 624 → F a = E a
theorem ev_packet {p mo t0 m1 m2 : Int} (ht : E 614 1 * p = t0) (t00 : 0 ≤ t0) (h0 : 0 ≤ E 617 244) (r0 : 0 ≤ E 614 2) (k0 : 0 ≤ E 614 1) (k1 : t0 + E 614 1 ≤ 126) (h4 : E 617 244 + E 614 2 + E 614 1 ≤ 400) (w0 : 0 ≤ E 613 27) (w2 : mo ≤ 1000000) (m10 : 0 ≤ m1) (m1r : m1 ≤ E 614 2) (m20 : 0 ≤ m2) (m2k : m2 ≤ E 614 1) (w1 : E 613 27 + m1 + m2 ≤ mo) (mt1 : m1 < E 614 2 → E 613 27 + m1 = mo) (mt2 : m2 < E 614 1 → E 613 27 + m1 + m2 = mo) (c0 : 0 ≤ E 613 25) (c1 : E 613 25 ≤ 126) (f0 : 0 ≤ E 614 4) (f1 : E 614 4 ≤ 12) (ok : ∀ j, 0 ≤ j → j < E 614 1 → okT E (t0 + j)) : ∃ s F f, cm_x 208 0 [some (.inr (.inr 613)), some (.inl (p)), some (.inl (mo)), none, none, none, none, none] [] (cm_hp E X) = some (.inl (some (.inl (s))), cm_hp F X) ∧ (∀ t, f t = if t0 ≤ t ∧ t < t0 + E 614 1 then E 617 244 + m1 + (t - t0) else E 624 t) ∧ pktW E F t0 m1 m2 s f := by
  obtain ⟨G, L1, g1, g2⟩ := ev_links (X := X) (p := p) (m1 := m1) h0 r0 (by omega) w0 w2 m10 m1r (by omega) mt1
  have e14 : G 614 = E 614 := g2 614 (by omega) (by omega) (by omega)
  have e17 : ∀ y, y ≠ 244 → G 617 y = E 617 y := fun y hy => by rw [g1.1, u1_ne hy]
  have e244 : G 617 244 = E 617 244 + m1 := by rw [g1.1, u1_eq]
  have e22 : G 622 = E 622 := g2 622 (by omega) (by omega) (by omega)
  have e23 : G 623 = E 623 := g2 623 (by omega) (by omega) (by omega)
  have e15 : G 615 = E 615 := g2 615 (by omega) (by omega) (by omega)
  have e25 : G 613 25 = E 613 25 := g1.2.2.1 25 (by omega)
  have e21 : G 613 21 = E 613 21 := g1.2.2.1 21 (by omega)
  have e27 : G 613 27 = E 613 27 + m1 := g1.2.1
  obtain ⟨f, L2, pf⟩ := ev_places (E := G) (X := X) (p := p) (mo := mo) (x := E 617 244 + m1) (by rw [e14]; exact k0) (by rw [e14, ht]; exact t00) (by rw [e14, ht]; omega) (by omega) (by omega)
  rw [e14, ht, g2 624 (by omega) (by omega) (by omega)] at pf
  have okG : ∀ j, 0 ≤ j → j < (cm_ua G 624 f) 614 1 → okT (cm_ua G 624 f) (t0 + j) := by
    intro j j0 j1
    have j1 : j < E 614 1 := by rw [← e14]; exact j1
    obtain ⟨o1, o2, o3⟩ := ok j j0 j1
    refine ⟨o1, ?_, ?_⟩
    · show G 622 (t0 + j) = 3 → 0 ≤ G 623 (t0 + j) ∧ G 623 (t0 + j) < 96
      rw [e22, e23]; exact o2
    · show G 622 (t0 + j) = 4 → (0 ≤ G 623 (t0 + j) ∧ G 623 (t0 + j) < 12) ∧ 0 ≤ G 617 (12 + G 623 (t0 + j)) ∧ G 617 (12 + G 623 (t0 + j)) ≤ 8
      rw [e22, e23]
      intro z
      obtain ⟨z1, z2⟩ := o3 z
      rw [e17 _ (by omega)]
      exact ⟨z1, z2⟩
  have q14 : (cm_ua G 624 f) 614 = E 614 := e14
  have q244 : (cm_ua G 624 f) 617 244 = E 617 244 + m1 := e244
  have q27 : (cm_ua G 624 f) 613 27 = E 613 27 + m1 := e27
  have q25 : (cm_ua G 624 f) 613 25 = E 613 25 := e25
  obtain ⟨s, F, L3, P⟩ := ev_conts (E := cm_ua G 624 f) (X := X) (p := p) (mo := mo) (x := E 617 244 + m1) (t0 := t0) (m2 := m2) (by rw [q14]; exact ht) (by rw [q244]; omega) m20 (by rw [q14]; exact m2k) (by rw [q244, q14]; omega) (by rw [q27]; omega) (by rw [q27]; exact w1) (by rw [q14, q27]; exact mt2) w2 (by rw [q25]; exact c0) (by rw [q25]; exact c1) (by rw [q14]; exact f0) (by rw [q14]; exact f1) okG
  refine ⟨s, F, f, ?_, pf, ?_⟩
  · rw [L1, L2, L3]
  · obtain ⟨⟨a1, a2, a3, a4⟩, p2, p3, p4, p5, p6⟩ := P
    have ef : ∀ b, fltX (cm_ua G 624 f) b ↔ fltX E b := fun b => by
      show (b = G 613 21 ∨ flt (G 614 4) (G 615) b) ↔ _
      rw [e21, e14, e15]; exact Iff.rfl
    have ek : ∀ b, kdX (cm_ua G 624 f) (E 617 244 + m1) t0 b = kdX E (E 617 244 + m1) t0 b := fun b => by
      unfold kdX
      rw [tv_c (ef b)]
      show (if _ then _ else G 622 _) = _
      rw [e22]
    have hb : bEq (cm_ua E 624 f) (cm_ua G 624 f) := ⟨e22, e23, rfl, e25, fun y y0 y1 => e17 y (by omega)⟩
    rw [q244] at a1 a4 p3 p4 p5
    refine ⟨?_, ?_, fun j hj => ?_, fun b => ?_, p2, ?_, fun y y0 y1 yn i i0 i1 => ?_, fun y hy => ?_, p6 624 (by omega) (by omega) (by omega) (by omega), fun a b1 b2 b3 b4 b5 => ?_⟩
    · rw [a1]
      show cm_u1 (G 617) 244 _ = _
      rw [g1.1, u1_u1]
    · rw [a2, q27]
    · rw [a3 j hj]; exact g1.2.2.1 j hj
    · rw [a4 b, ek b]
      show (if _ then _ else G 619 b) = _
      rw [g1.2.2.2 b]
      by_cases h1 : E 617 244 ≤ b ∧ b < E 617 244 + m1
      · rw [if_pos h1, if_pos h1, if_neg (by omega)]
      · rw [if_neg h1, if_neg h1]
    · refine p3.trans ⟨fun ⟨b, z0, z1, z2⟩ => ⟨b, z0, z1, (ef b).mp z2⟩, fun ⟨b, z0, z1, z2⟩ => ⟨b, z0, z1, (ef b).mpr z2⟩⟩
    · rw [p4 y y0 y1 (fun z => yn ((ef y).mp z)) i i0 i1]
      refine bodM_c hb ?_ i0 i1
      have o := ok (y - (E 617 244 + m1)) (by omega) (by omega)
      exact o
    · rw [p5 y hy]
      exact congrFun (g2 620 (by omega) (by omega) (by omega)) y
    · rw [p6 a b1 b2 b3 b4, ua_row b5, g2 a b1 b2 b3]
