/-! one packet is written: the reference, its contents -/
variable {D E : Nat → Int → Int} {X : cm_X} {K B K' B' A : Int → Int} {h pk c : Int} {S : Nat → Int → Int} {r : Int → Int}
theorem mNm_c {f g : Int → Int} (hq : ∀ j, 0 ≤ j → j < 244 → f j = g j) (v : Int) : mNm f v = mNm g v := by
  unfold mNm
  refine fnd_congr fun n h1 h2 => ?_
  rw [hq n h1 (by omega)]
/-- rows that a body is made of -/
def bEq (E F : Nat → Int → Int) : Prop := F 622 = E 622 ∧ F 623 = E 623 ∧ F 624 = E 624 ∧ F 613 25 = E 613 25 ∧ ∀ j, 0 ≤ j → j < 244 → F 617 j = E 617 j
/-- a content that may be written -/
def okT (E : Nat → Int → Int) (t : Int) : Prop := (0 ≤ t ∧ t < 126) ∧ (E 622 t = 3 → 0 ≤ E 623 t ∧ E 623 t < 96) ∧ (E 622 t = 4 → (0 ≤ E 623 t ∧ E 623 t < 12) ∧ 0 ≤ E 617 (12 + E 623 t) ∧ E 617 (12 + E 623 t) ≤ 8)
theorem plc_c {F : Nat → Int → Int} (hb : bEq E F) (k w d : Int) : plc F k w d = plc E k w d := by
  obtain ⟨b1, b2, b3, b4, -⟩ := hb
  unfold plc
  rw [b1, b2, b3, b4]
theorem bodM_c {F : Nat → Int → Int} (hb : bEq E F) {t i : Int} (ht : okT E t) (i0 : 0 ≤ i) (i1 : i < 15) : bodM F t i = bodM E t i := by
  have hp := plc_c hb
  obtain ⟨b1, b2, b3, b4, b5⟩ := hb
  obtain ⟨-, t3, t4⟩ := ht
  unfold bodM
  rw [b1, b2]
  by_cases k3 : E 622 t = 3
  · have := t3 k3
    rw [if_pos k3, if_pos k3, b5 (132 + E 623 t) (by omega) (by omega)]
  · rw [if_neg k3, if_neg k3]
    by_cases k4 : E 622 t = 4
    · have := t4 k4
      rw [if_pos k4, if_pos k4, b5 (12 + E 623 t) (by omega) (by omega)]
      by_cases h8 : i = 8
      · rw [if_pos h8, if_pos h8]
      · rw [if_neg h8, if_neg h8]
        by_cases hl : i < E 617 (12 + E 623 t)
        · rw [if_pos hl, if_pos hl]
          unfold bod4
          rw [b5 (36 + 8 * E 623 t + i) (by omega) (by omega), hp]
        · rw [if_neg hl, if_neg hl]
    · rw [if_neg k4, if_neg k4]
      by_cases k5 : E 622 t = 5
      · rw [if_pos k5, if_pos k5]
        by_cases hi : i < 12
        · rw [if_pos hi, if_pos hi, b5 i i0 (by omega)]
        · rw [if_neg hi, if_neg hi]
      · rw [if_neg k5, if_neg k5]
        by_cases k6 : E 622 t = 6
        · rw [if_pos k6, if_pos k6, hp, b5 228 (by omega) (by omega), b5 242 (by omega) (by omega), b5 243 (by omega) (by omega)]
          by_cases hz : i = 0
          · rw [if_pos hz, if_pos hz]
          · rw [if_neg hz, if_neg hz]
            by_cases hi : i < 13
            · rw [if_pos hi, if_pos hi]
              unfold bod6
              rw [mNm_c b5, b5 (228 + i) (by omega) (by omega), hp]
            · rw [if_neg hi, if_neg hi]
        · rw [if_neg k6, if_neg k6]
/-- the kind of a block of a packet -/
noncomputable def kdX (E : Nat → Int → Int) (hd t0 b : Int) : Int := if tv (fltX E b) = 1 then 8 else E 622 (t0 + (b - hd))
/-- what j contents of a packet leave -/
def pkW (E F : Nat → Int → Int) (t0 j s : Int) : Prop := wrt E F j (kdX E (E 617 244) t0) ∧ (s = 0 ∨ s = 1) ∧ (s = 1 ↔ ∃ b, E 617 244 ≤ b ∧ b < E 617 244 + j ∧ fltX E b) ∧ (∀ y, E 617 244 ≤ y → y < E 617 244 + j → ¬ fltX E y → ∀ i, 0 ≤ i → i < 15 → F 620 (15 * y + i) = bodM E (t0 + (y - E 617 244)) i) ∧ (∀ y, y < 15 * E 617 244 ∨ 15 * (E 617 244 + j) ≤ y → F 620 y = E 620 y) ∧ ∀ a : Nat, a ≠ 613 → a ≠ 617 → a ≠ 619 → a ≠ 620 → F a = E a
theorem pkW_0 {t0 : Int} : pkW E E t0 0 0 := ⟨wrt_0, Or.inl rfl, ⟨fun z => by omega, fun ⟨b, b0, b1, _⟩ => by omega⟩, fun y y0 y1 => by omega, fun _ _ => rfl, fun _ _ _ _ _ => rfl⟩
theorem pk_step {p mo x t0 j s : Int} {F : Nat → Int → Int} (ht : E 614 1 * p = t0) (h0 : 0 ≤ E 617 244) (j0 : 0 ≤ j) (j1 : j < E 614 1) (h4 : E 617 244 + E 614 1 ≤ 400) (w0 : 0 ≤ E 613 27) (w1 : E 613 27 + j < mo) (w2 : mo ≤ 1000000) (c0 : 0 ≤ E 613 25) (c1 : E 613 25 ≤ 126) (f0 : 0 ≤ E 614 4) (f1 : E 614 4 ≤ 12) (ok : okT E (t0 + j)) (hP : pkW E F t0 j s) : ∃ s' F', cm_x 208 87 [some (.inr (.inr 613)), some (.inl (p)), some (.inl (mo)), some (.inl (s)), some (.inl (x)), some (.inl (j)), none, none] [] (cm_hp F X) = cm_x 208 87 [some (.inr (.inr 613)), some (.inl (p)), some (.inl (mo)), some (.inl (s')), some (.inl (x)), some (.inl (j + 1)), none, none] [] (cm_hp F' X) ∧ pkW E F' t0 (j + 1) s' := by
  obtain ⟨p1, p2, p3, p4, p5, p6⟩ := hP
  have e14 : F 614 = E 614 := p6 614 (by omega) (by omega) (by omega) (by omega)
  have e15 : F 615 = E 615 := p6 615 (by omega) (by omega) (by omega) (by omega)
  have e22 : F 622 = E 622 := p6 622 (by omega) (by omega) (by omega) (by omega)
  have e23 : F 623 = E 623 := p6 623 (by omega) (by omega) (by omega) (by omega)
  have e24 : F 624 = E 624 := p6 624 (by omega) (by omega) (by omega) (by omega)
  have e25 : F 613 25 = E 613 25 := p1.2.2.1 25 (by omega)
  have e21 : F 613 21 = E 613 21 := p1.2.2.1 21 (by omega)
  have e17 : ∀ y, y ≠ 244 → F 617 y = E 617 y := fun y hy => by rw [p1.1, u1_ne hy]
  have e244 : F 617 244 = E 617 244 + j := by rw [p1.1, u1_eq]
  have ef : fltX F (E 617 244 + j) ↔ fltX E (E 617 244 + j) := by unfold fltX; rw [e21, e14, e15]
  have hb : bEq E F := ⟨e22, e23, e24, e25, fun y y0 y1 => e17 y (by omega)⟩
  obtain ⟨⟨ok1, ok2⟩, ok3, ok4⟩ := ok
  have wt : cm_wr (cm_wr (E 614 1 * p) + j) = t0 + j := by rw [ht, cm_wr_id (x := t0) (by omega) (by omega), cm_wr_id (by omega) (by omega)]
  have head : cm_x 208 87 [some (.inr (.inr 613)), some (.inl (p)), some (.inl (mo)), some (.inl (s)), some (.inl (x)), some (.inl (j)), none, none] [] (cm_hp F X) = cm_x 208 122 [some (.inr (.inr 613)), some (.inl (p)), some (.inl (mo)), some (.inl (s)), some (.inl (x)), some (.inl (j)), some (.inl (E 617 244 + j)), none] [.inl (tv (fltX E (E 617 244 + j)))] (cm_hp F X) := by
    rw [sg_X9_writePacket_87, e14, if_pos j1, ev_tornN (by rw [p1.2.1]; omega), aft_v, sg_X9_writePacket_103, if_pos rfl, e244, ev_mFlt (E := F) (by rw [e14]; exact f0) (by rw [e14]; exact f1), aft_v, tv_c ef]
  rw [head]
  by_cases hx : fltX E (E 617 244 + j)
  · have hk : kdX E (E 617 244) t0 (E 617 244 + j) = 8 := by unfold kdX; rw [tv_t hx, if_pos rfl]
    obtain ⟨F', g1, g2, g3⟩ := wrt_s (X := X) (x := 8) p1 h0 j0 (by omega) w0 (by omega) hk
    refine ⟨1, F', ?_, g2, Or.inr rfl, ⟨fun _ => ⟨E 617 244 + j, by omega, by omega, hx⟩, fun _ => rfl⟩, fun y y0 y1 yn i i0 i1 => ?_, fun y hy => ?_, fun a a1 a2 a3 a4 => by rw [g3 a a1 a2 a3, p6 a a1 a2 a3 a4]⟩
    · rw [sg_X9_writePacket_122, tv_t hx, if_neg (show ¬ (1 : Int) = 0 by omega), if_neg (show ¬ (1 : Int) = 0 by omega)]
      have tail : cm_x 208 161 [some (.inr (.inr 613)), some (.inl (p)), some (.inl (mo)), some (.inl (1)), some (.inl (x)), some (.inl (j)), some (.inl (E 617 244 + j)), some (.inl (1))] [] (cm_hp F X) = cm_x 208 87 [some (.inr (.inr 613)), some (.inl (p)), some (.inl (mo)), some (.inl (1)), some (.inl (x)), some (.inl (j + 1)), none, none] [] (cm_hp F' X) := by
        rw [sg_X9_writePacket_161, if_neg (by omega), g1, aft_n, sg_X9_writePacket_191, cm_wr_id (by omega) (by omega)]
      by_cases hs : s = 0
      · rw [if_pos hs]; exact tail
      · rw [if_neg hs]; exact tail
    · by_cases hy : y = E 617 244 + j
      · rw [hy] at yn; exact absurd hx yn
      · rw [g3 620 (by omega) (by omega) (by omega)]; exact p4 y y0 (by omega) yn i i0 i1
    · rw [g3 620 (by omega) (by omega) (by omega)]; exact p5 y (by omega)
  · have hk : kdX E (E 617 244) t0 (E 617 244 + j) = E 622 (t0 + j) := by
      unfold kdX
      rw [tv_f hx, if_neg (by omega)]
      congr 1
      omega
    obtain ⟨g, b1, b2, b3⟩ := ev_body (E := F) (X := X) (b := E 617 244 + j) (t := t0 + j) (by omega) (by omega) (by omega) (by omega) (by rw [e25]; exact c0) (by rw [e25]; exact c1) (by rw [e22, e23]; exact ok3) (by
      rw [e22, e23]
      intro z
      obtain ⟨z1, z2⟩ := ok4 z
      rw [e17 _ (by omega)]
      exact ⟨z1, z2⟩)
    have p1' : wrt E (cm_ua F 620 g) j (kdX E (E 617 244) t0) := p1
    obtain ⟨F', g1, g2, g3⟩ := wrt_s (X := X) (x := E 622 (t0 + j)) p1' h0 j0 (by omega) w0 (by omega) hk
    have q14 : cm_ua F 620 g 614 = E 614 := e14
    have q22 : cm_ua F 620 g 622 = E 622 := e22
    have f620 : F' 620 = g := by rw [g3 620 (by omega) (by omega) (by omega)]; rfl
    have tail : ∀ u : Int, cm_x 208 161 [some (.inr (.inr 613)), some (.inl (p)), some (.inl (mo)), some (.inl (u)), some (.inl (x)), some (.inl (j)), some (.inl (E 617 244 + j)), some (.inl (0))] [] (cm_hp (cm_ua F 620 g) X) = cm_x 208 87 [some (.inr (.inr 613)), some (.inl (p)), some (.inl (mo)), some (.inl (u)), some (.inl (x)), some (.inl (j + 1)), none, none] [] (cm_hp F' X) := fun u => by
      rw [sg_X9_writePacket_161, if_pos rfl, q14, wt, ck_t (by omega), q22, g1, aft_n, sg_X9_writePacket_191, cm_wr_id (by omega) (by omega)]
    refine ⟨s, F', ?_, g2, p2, ?_, fun y y0 y1 yn i i0 i1 => ?_, fun y hy => ?_, fun a a1 a2 a3 a4 => ?_⟩
    · rw [sg_X9_writePacket_122, tv_f hx, if_pos (show (0 : Int) = 0 from rfl), if_pos (show (0 : Int) = 0 from rfl), e14, wt, b1, aft_n, aft_n]
      by_cases hs : s = 0
      · rw [if_pos hs, hs]; exact tail 0
      · rw [if_neg hs, show s = 1 by omega]; exact tail 1
    · refine p3.trans ⟨fun ⟨b, z0, z1, z2⟩ => ⟨b, z0, by omega, z2⟩, fun ⟨b, z0, z1, z2⟩ => ⟨b, z0, ?_, z2⟩⟩
      by_cases hbb : b = E 617 244 + j
      · rw [hbb] at z2; exact absurd z2 hx
      · omega
    · rw [f620]
      by_cases hy : y = E 617 244 + j
      · rw [hy, b3 i i0 i1, bodM_c hb ⟨⟨ok1, ok2⟩, ok3, ok4⟩ i0 i1]
        congr 1
        omega
      · rw [b2 _ (by omega)]; exact p4 y y0 (by omega) yn i i0 i1
    · rw [f620, b2 y (by omega)]; exact p5 y (by omega)
    · rw [g3 a a1 a2 a3, ua_row a4]; exact p6 a a1 a2 a3 a4
