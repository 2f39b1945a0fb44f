/-! tokens of a text: both, one step -/
variable {C C' D E E' F : Nat → Int → Int} {X Y : cm_X} {T : Int → Int} {len : Int}
/-- the reference reads digits -/
theorem tk_dig (h : txR C E len) (Y : cm_X) {a e c : Int} (a0 : 0 ≤ a) (ae : a ≤ e) (el : e ≤ len) (hd : ∀ j, a ≤ j → j < e → 48 ≤ C 1 j ∧ C 1 j ≤ 57) (hn : ¬ (e < len ∧ 48 ≤ C 1 e ∧ C 1 e ≤ 57)) (q10 : E 613 10 = a) (q13 : E 613 13 = 0) : ∃ F, cm_x 171 123 [some (.inr (.inr 613)), some (.inl (c))] [] (cm_hp E Y) = some (.inl none, cm_hp F Y) ∧ F 613 10 = e ∧ F 613 12 = 2 ∧ F 613 15 = e ∧ (e - a ≤ 4 → F 613 13 = nv (C 1) a (e - a).toNat) ∧ (∀ j, j ≠ 10 → j ≠ 12 → j ≠ 13 → j ≠ 15 → F 613 j = E 613 j) ∧ ∀ x : Nat, x ≠ 613 → F x = E x := by
  have hl := h.2.2.1
  obtain ⟨F, L, P1, P2, P3, P4, P5⟩ := lp_inv (X := fun (j : Int) F => cm_x 171 123 [some (.inr (.inr 613)), some (.inl (c))] [] (cm_hp F Y)) (P := fun j F => F 613 10 = a + j ∧ (0 ≤ F 613 13 ∧ F 613 13 ≤ 100000) ∧ (j ≤ 4 → F 613 13 = nv (C 1) a j.toNat) ∧ (∀ i, i ≠ 10 → i ≠ 13 → F 613 i = E 613 i) ∧ ∀ x : Nat, x ≠ 613 → F x = E x) (lo := 0) (hi := e - a) (fun j F j0 j1 hP => by
    obtain ⟨p1, p2, p3, p4, p5⟩ := hP
    have hdj := hd (a + j) (by omega) (by omega)
    have hF : txR C F len := by
      obtain ⟨t1, t2, t3, t4⟩ := h
      exact ⟨t1, by rw [p4 11 (by omega) (by omega)]; exact t2, t3, by rw [p5 621 (by omega)]; exact t4⟩
    have hby := ev_byte (Y := Y) hF (p := a + j) (by omega)
    rw [if_pos (by omega)] at hby
    have hm : 0 ≤ cm_mn 100000 (10 * F 613 13 + C 1 (a + j) - 48) ∧ cm_mn 100000 (10 * F 613 13 + C 1 (a + j) - 48) ≤ 100000 := by
      unfold cm_mn
      split
      · omega
      · omega
    refine ⟨cm_up (cm_up F 613 13 (cm_mn 100000 (10 * F 613 13 + C 1 (a + j) - 48))) 613 10 (a + j + 1), ?_, ?_, hm, fun h4 => ?_, fun i h1 h2 => ?_, fun x hx => by rw [up_row hx, up_row hx, p5 x hx]⟩
    · show cm_x 171 123 [some (.inr (.inr 613)), some (.inl (c))] [] (cm_hp F Y) = _
      rw [sg_X9_stepOn_123, p1, hby, aft_v, sg_X9_stepOn_131, ev_isG, aft_v, if_pos hdj, sg_X9_stepOn_134, if_neg (by omega), p1, hby, aft_v, sg_X9_stepOn_155, p1, cm_wr_id (x := 10 * F 613 13) (by omega) (by omega), cm_wr_id (x := 10 * F 613 13 + C 1 (a + j)) (by omega) (by omega), cm_wr_id (x := 10 * F 613 13 + C 1 (a + j) - 48) (by omega) (by omega), cm_wr_id (x := a + j + 1) (by omega) (by omega)]
    · rw [up_same, u1_eq]; omega
    · have hb := nv_5 (T := C 1) (a := a) (k := (j + 1).toNat) (by omega) (fun i i0 i1 => hd i i0 (by omega))
      have en : nv (C 1) a (j + 1).toNat = 10 * F 613 13 + C 1 (a + j) - 48 := by
        rw [toN_s j0, p3 (by omega)]
        show 10 * nv (C 1) a j.toNat + C 1 (a + (j.toNat : Int)) - 48 = _
        rw [show ((j.toNat : Nat) : Int) = j by omega]
      rw [up_same, u1_ne (by omega), up_same, u1_eq, en]
      rw [en] at hb
      unfold cm_mn
      rw [if_pos (by omega)]
    · rw [up_same, u1_ne h1, up_same, u1_ne h2, p4 i h1 h2]) E (by omega) ⟨by omega, by omega, fun _ => q13, fun _ _ _ => rfl, fun _ _ => rfl⟩
  have hF : txR C F len := by
    obtain ⟨t1, t2, t3, t4⟩ := h
    exact ⟨t1, by rw [P4 11 (by omega) (by omega)]; exact t2, t3, by rw [P5 621 (by omega)]; exact t4⟩
  have L : cm_x 171 123 [some (.inr (.inr 613)), some (.inl (c))] [] (cm_hp E Y) = cm_x 171 123 [some (.inr (.inr 613)), some (.inl (c))] [] (cm_hp F Y) := L
  have P1 : F 613 10 = e := by omega
  refine ⟨cm_up (cm_up F 613 12 2) 613 15 e, ?_, ?_, ?_, ?_, fun h4 => ?_, fun j h1 h2 h3 h4 => ?_, fun x hx => by rw [up_row hx, up_row hx, P5 x hx]⟩
  · rw [L, sg_X9_stepOn_123, P1, ev_byte hF (by omega), aft_v, sg_X9_stepOn_131, ev_isG, aft_v, if_neg (show ¬ (48 ≤ (if e < len then C 1 e else -1) ∧ (if e < len then C 1 e else -1) ≤ 57) by
      by_cases hp : e < len
      · rw [if_pos hp]; omega
      · rw [if_neg hp]; omega), sg_X9_stepOn_134, if_pos rfl, P1]
  · rw [up_same, u1_ne (by omega), up_same, u1_ne (by omega)]; exact P1
  · rw [up_same, u1_ne (by omega), up_same, u1_eq]
  · rw [up_same, u1_eq]
  · rw [up_same, u1_ne (by omega), up_same, u1_ne (by omega)]; exact P3 h4
  · rw [up_same, u1_ne h4, up_same, u1_ne h2, P4 j h1 h3]
/-- a token, as both have it -/
def tkR (C E : Nat → Int → Int) (len : Int) : Prop := C 3 2 = E 613 10 ∧ E 613 15 = E 613 10 ∧ C 3 3 = E 613 14 ∧ C 3 4 = E 613 12 ∧ (0 ≤ C 3 3 ∧ C 3 3 ≤ C 3 2 ∧ C 3 2 ≤ len) ∧ (C 3 4 ≠ 0 → C 3 3 < C 3 2) ∧ (C 3 4 = 2 → C 3 6 = C 3 2 - C 3 3 ∧ (C 3 6 ≤ 4 → C 3 5 = E 613 13 ∧ 0 ≤ C 3 5 ∧ C 3 5 ≤ 9999)) ∧ 0 ≤ C 3 4 ∧ C 3 4 ≤ 4
def tF (C C' : Nat → Int → Int) : Prop := C' 3 1 = C 3 1 ∧ ∀ x : Nat, x ≠ 3 → C' x = C x
def tE (E E' : Nat → Int → Int) : Prop := (∀ j, j ≠ 10 → j ≠ 12 → j ≠ 13 → j ≠ 14 → j ≠ 15 → E' 613 j = E 613 j) ∧ ∀ x : Nat, x ≠ 613 → E' x = E x
theorem ev_tok (h : txR C E len) (hp : C 3 2 = E 613 10) (p0 : 0 ≤ C 3 2) (p1 : C 3 2 ≤ len) (X Y : cm_X) : ∃ C' E', cm_x 96 0 [some (.inr (.inr 3))] [] (cm_hp C X) = some (.inl none, cm_hp C' X) ∧ cm_x 171 0 [some (.inr (.inr 613)), none] [] (cm_hp E Y) = some (.inl none, cm_hp E' Y) ∧ tkR C' E' len ∧ C 3 2 ≤ C' 3 3 ∧ tF C C' ∧ tE E E' := by
  have hl := h.2.2.1
  obtain ⟨a, a1, a2, a3, a4, a5⟩ := tk_skip h X Y (len - C 3 2).toNat (C 3 2) (by omega) p0 p1
  have eE : cm_up E 613 10 (C 3 2) = E := by rw [hp, up_to_ua, u1_id, ua_id]
  rw [eE] at a5
  have hE : txR C (cm_up E 613 10 a) len := h
  have e10 : (cm_up E 613 10 a) 613 10 = a := rfl
  have q33 : (cm_up C 3 3 a) 3 3 = a := rfl
  have q31 : (cm_up C 3 3 a) 3 1 = len := h.1
  have q1 : (cm_up C 3 3 a) 1 = C 1 := rfl
  -- the reference, up to the first byte
  have hby := ev_byte (Y := Y) hE (p := a) (by omega)
  have hby2 : cm_x 168 0 [some (.inr (.inr 613)), some (.inl (a))] [] (cm_hp (cm_up (cm_up E 613 10 a) 613 14 a) Y) = some (.inl (some (.inl (if a < len then C 1 a else -1))), cm_hp (cm_up (cm_up E 613 10 a) 613 14 a) Y) := ev_byte (C := C) (show txR C (cm_up (cm_up E 613 10 a) 613 14 a) len from h) (by omega)
  have mdl : cm_x 171 0 [some (.inr (.inr 613)), none] [] (cm_hp E Y) = cm_x 171 55 [some (.inr (.inr 613)), none] [.inl (if a < len then C 1 a else -1)] (cm_hp (cm_up (cm_up E 613 10 a) 613 14 a) Y) := by
    have n32 : ¬ (if a < len then C 1 a else -1) = 32 := by
      by_cases z : a < len
      · rw [if_pos z]; exact (a3 z).1
      · rw [if_neg z]; omega
    have n10 : ¬ (if a < len then C 1 a else -1) = 10 := by
      by_cases z : a < len
      · rw [if_pos z]; exact (a3 z).2
      · rw [if_neg z]; omega
    rw [a5, sg_X9_stepOn_0, e10, hby, aft_v, sg_X9_stepOn_8, if_neg n32, e10, hby, aft_v, sg_X9_stepOn_21, if_neg n10, e10, hby2, aft_v]
  by_cases hal : a < len
  · rw [if_pos hal] at mdl
    obtain ⟨n32, n10⟩ := a3 hal
    have hc := (h.2.2.2 a (by omega) (by omega)).2
    have cls : cm_x 96 0 [some (.inr (.inr 3))] [] (cm_hp C X) = cm_aft 96 91 94 [some (.inr (.inr 3))] [.inr (.inr 3)] (cm_x 97 5 [some (.inr (.inr 3)), some (.inl (97)), some (.inl (122)), some (.inl (a))] [] (cm_hp (cm_up C 3 3 a) X)) := by
      rw [sg_X7_advance_0, a4, sg_X7_advance_8, q33, q31, if_pos hal, ck_t (by omega), q1, if_neg n32, ck_t (by omega), if_neg n10, if_pos hal, sg_X7_endOfRow_0, q33]
    have hC : txR (cm_up C 3 3 a) (cm_up (cm_up E 613 10 a) 613 14 a) len := h
    by_cases hlt : 97 ≤ C 1 a ∧ C 1 a ≤ 122
    · -- a word
      obtain ⟨e, b1, b2, b3, b4, b5⟩ := tk_let hC X Y (C 1 a) (len - a).toNat a (by omega) (by omega) (by omega)
      have b3 := b3 ⟨hal, hlt⟩
      have e3 : cm_up (cm_up (cm_up E 613 10 a) 613 14 a) 613 10 a = cm_up (cm_up E 613 10 a) 613 14 a := by
        exact up_id rfl
      rw [e3] at b5
      refine ⟨cm_up (cm_up (cm_up C 3 3 a) 3 2 e) 3 4 1, cm_up (cm_up (cm_up (cm_up (cm_up E 613 10 a) 613 14 a) 613 10 e) 613 12 1) 613 15 e, ?_, ?_, ⟨rfl, rfl, rfl, rfl, ⟨?_, ?_, ?_⟩, fun _ => ?_, fun z => ?_, by show (0 : Int) ≤ 1; omega, by show (1 : Int) ≤ 4; omega⟩, ?_, ⟨rfl, fun x hx => by rw [up_row hx, up_row hx, up_row hx]⟩, ⟨fun j h1 h2 h3 h4 h5 => by rw [up_same, u1_ne h5, up_same, u1_ne h2, up_same, u1_ne h1, up_same, u1_ne h4, up_same, u1_ne h1], fun x hx => by rw [up_row hx, up_row hx, up_row hx, up_row hx, up_row hx]⟩⟩
      · have z2 : (cm_up (cm_up (cm_up C 3 3 a) 3 2 e) 3 4 1) 3 2 = e := rfl
        have z3 : (cm_up (cm_up (cm_up C 3 3 a) 3 2 e) 3 4 1) 3 3 = a := rfl
        rw [cls, b4, aft_v, sg_X7_advance_94, q33, if_neg (by omega), sg_X7_advance_134, z2, z3, if_neg (by omega)]
      · rw [mdl, sg_X9_stepOn_55, if_neg (by omega), ev_isL, aft_v, if_pos hlt, sg_X9_stepOn_73, if_neg (by omega), b5]
      · show 0 ≤ a
        omega
      · show a ≤ e
        omega
      · show e ≤ len
        omega
      · show a < e
        omega
      · exact absurd z (by show ¬ (1 : Int) = 2; omega)
      · show C 3 2 ≤ a
        omega
    · -- no letter
      have cl1 : cm_x 96 0 [some (.inr (.inr 3))] [] (cm_hp C X) = cm_aft 96 119 122 [some (.inr (.inr 3))] [.inr (.inr 3)] (cm_x 97 5 [some (.inr (.inr 3)), some (.inl (48)), some (.inl (57)), some (.inl (a))] [] (cm_hp (cm_up (cm_up (cm_up C 3 3 a) 3 2 a) 3 4 1) X)) := by
        have z3 : (cm_up (cm_up (cm_up C 3 3 a) 3 2 a) 3 4 1) 3 3 = a := rfl
        have first : cm_x 97 5 [some (.inr (.inr 3)), some (.inl (97)), some (.inl (122)), some (.inl (a))] [] (cm_hp (cm_up C 3 3 a) X) = some (.inl (some (.inl (a))), cm_hp (cm_up C 3 3 a) X) := by
          rw [sg_X7_endOfRow_5, q31, if_pos hal, ck_t (by omega), q1]
          by_cases hq : C 1 a < 97
          · rw [if_pos hq]
          · rw [if_neg hq, ck_t (by omega), if_pos (by omega)]
        rw [cls, first, aft_v, sg_X7_advance_94, q33, if_pos rfl, sg_X7_endOfRow_0, z3]
      have ml1 : cm_x 171 0 [some (.inr (.inr 613)), none] [] (cm_hp E Y) = cm_x 171 115 [some (.inr (.inr 613)), some (.inl (C 1 a))] [.inl (if 48 ≤ C 1 a ∧ C 1 a ≤ 57 then 1 else 0)] (cm_hp (cm_up (cm_up E 613 10 a) 613 14 a) Y) := by
        rw [mdl, sg_X9_stepOn_55, if_neg (by omega), ev_isL, aft_v, if_neg hlt, sg_X9_stepOn_73, if_pos rfl, ev_isG, aft_v]
      have hC1 : txR (cm_up (cm_up (cm_up C 3 3 a) 3 2 a) 3 4 1) (cm_up (cm_up E 613 10 a) 613 14 a) len := h
      obtain ⟨e, b1, b2, b3, b4, b5⟩ := tk_end hC1 X (len - a).toNat a (by omega) (by omega) (by omega)
      have hC2 : txR (cm_up (cm_up (cm_up (cm_up (cm_up C 3 3 a) 3 2 a) 3 4 1) 3 2 e) 3 4 2) (cm_up (cm_up E 613 10 a) 613 14 a) len := h
      obtain ⟨v, v1, v2⟩ := tk_val hC2 X (a := a) (e := e) (by omega) b1 b2 b3 rfl rfl
      have cl2 : cm_x 96 0 [some (.inr (.inr 3))] [] (cm_hp C X) = cm_x 96 134 [some (.inr (.inr 3))] [] (cm_hp (cm_up (cm_up (cm_up (cm_up (cm_up (cm_up (cm_up C 3 3 a) 3 2 a) 3 4 1) 3 2 e) 3 4 2) 3 6 (e - a)) 3 5 v) X) := by
        rw [cl1, b5, aft_v, sg_X7_advance_122, v1, aft_n]
      have v2 : e - a ≤ 4 → v = nv (C 1) a (e - a).toNat := v2
      have b4 : ¬ (e < len ∧ 48 ≤ C 1 e ∧ C 1 e ≤ 57) := b4
      have b3 : ∀ j, a ≤ j → j < e → 48 ≤ C 1 j ∧ C 1 j ≤ 57 := b3
      generalize hG : cm_up (cm_up (cm_up (cm_up (cm_up (cm_up (cm_up C 3 3 a) 3 2 a) 3 4 1) 3 2 e) 3 4 2) 3 6 (e - a)) 3 5 v = G at cl2
      have g2 : G 3 2 = e := by rw [← hG]; rfl
      have g3 : G 3 3 = a := by rw [← hG]; rfl
      have g4 : G 3 4 = 2 := by rw [← hG]; rfl
      have g5 : G 3 5 = v := by rw [← hG]; rfl
      have g6 : G 3 6 = e - a := by rw [← hG]; rfl
      have g1 : G 3 1 = C 3 1 := by rw [← hG]; rfl
      have gx : ∀ x : Nat, x ≠ 3 → G x = C x := fun x hx => by rw [← hG, up_row hx, up_row hx, up_row hx, up_row hx, up_row hx, up_row hx, up_row hx]
      by_cases hdg : 48 ≤ C 1 a ∧ C 1 a ≤ 57
      · have hea : a < e := by
          by_cases z : a < e
          · exact z
          · exact absurd (by rw [show e = a by omega]; exact ⟨hal, hdg⟩) b4
        obtain ⟨F, f1, f2, f3, f4, f5, f6, f7⟩ := tk_dig (C := C) (E := cm_up (cm_up (cm_up E 613 10 a) 613 14 a) 613 13 0) (len := len) h Y (a := a) (e := e) (c := C 1 a) (by omega) b1 b2 b3 b4 rfl rfl
        have fb : F 613 14 = a := by rw [f6 14 (by omega) (by omega) (by omega) (by omega)]; rfl
        refine ⟨G, F, ?_, ?_, ⟨by rw [g2, f2], by rw [f4, f2], by rw [g3, fb], by rw [g4, f3], by omega, fun _ => by omega, fun _ => ⟨by omega, fun z => ?_⟩, by omega, by omega⟩, by omega, ⟨g1, gx⟩, ⟨fun j h1 h2 h3 h4 h5 => ?_, fun x hx => ?_⟩⟩
        · rw [cl2, sg_X7_advance_134, g2, g3, if_neg (by omega)]
        · rw [ml1, if_pos hdg, sg_X9_stepOn_115, if_neg (by omega), f1]
        · rw [g6] at z
          have hb := nv_5 (T := C 1) (a := a) (k := (e - a).toNat) (by omega) (fun i i0 i1 => b3 i i0 (by omega))
          rw [g5, v2 z, f5 z]
          exact ⟨rfl, hb⟩
        · rw [f6 j h1 h2 h3 h5, up_same, u1_ne h3, up_same, u1_ne h4, up_same, u1_ne h1]
        · rw [f7 x hx, up_row hx, up_row hx, up_row hx]
      · have hea : e = a := by
          by_cases z : a < e
          · exact absurd (b3 a (by omega) z) hdg
          · omega
        have w1 : cm_wr (a + 1) = a + 1 := cm_wr_id (by omega) (by omega)
        have g11 : G 1 = C 1 := gx 1 (by omega)
        have z10 : (cm_up (cm_up E 613 10 a) 613 14 a) 613 10 = a := rfl
        have key : ∀ s : Int, (s = 3 ∨ s = 4) → tkR (cm_up (cm_up G 3 4 s) 3 2 (a + 1)) (cm_up (cm_up (cm_up (cm_up (cm_up E 613 10 a) 613 14 a) 613 10 (a + 1)) 613 12 s) 613 15 (a + 1)) len ∧ C 3 2 ≤ (cm_up (cm_up G 3 4 s) 3 2 (a + 1)) 3 3 ∧ tF C (cm_up (cm_up G 3 4 s) 3 2 (a + 1)) ∧ tE E (cm_up (cm_up (cm_up (cm_up (cm_up E 613 10 a) 613 14 a) 613 10 (a + 1)) 613 12 s) 613 15 (a + 1)) := fun s hs => by
          have y3 : (cm_up (cm_up G 3 4 s) 3 2 (a + 1)) 3 3 = a := g3
          have y4 : (cm_up (cm_up G 3 4 s) 3 2 (a + 1)) 3 4 = s := rfl
          have y2 : (cm_up (cm_up G 3 4 s) 3 2 (a + 1)) 3 2 = a + 1 := rfl
          refine ⟨⟨rfl, rfl, y3, rfl, ?_, fun _ => ?_, fun z => ?_, ?_⟩, ?_, ⟨g1, fun x hx => by rw [up_row hx, up_row hx, gx x hx]⟩, ⟨fun j h1 h2 h3 h4 h5 => by rw [up_same, u1_ne h5, up_same, u1_ne h2, up_same, u1_ne h1, up_same, u1_ne h4, up_same, u1_ne h1], fun x hx => by rw [up_row hx, up_row hx, up_row hx, up_row hx, up_row hx]⟩⟩
          · rw [y3, y2]; omega
          · rw [y3, y2]; omega
          · rw [y4] at z; omega
          · rw [y4]; omega
          · rw [y3]; omega
        by_cases h59 : C 1 a = 59
        · refine ⟨cm_up (cm_up G 3 4 3) 3 2 (a + 1), cm_up (cm_up (cm_up (cm_up (cm_up E 613 10 a) 613 14 a) 613 10 (a + 1)) 613 12 3) 613 15 (a + 1), ?_, ?_, key 3 (Or.inl rfl)⟩
          · rw [cl2, sg_X7_advance_134, g2, g3, if_pos hea, ck_t (by omega), g11, if_pos h59, w1]
          · rw [ml1, if_neg hdg, sg_X9_stepOn_115, if_pos rfl, if_pos h59, z10, w1]
        · refine ⟨cm_up (cm_up G 3 4 4) 3 2 (a + 1), cm_up (cm_up (cm_up (cm_up (cm_up E 613 10 a) 613 14 a) 613 10 (a + 1)) 613 12 4) 613 15 (a + 1), ?_, ?_, key 4 (Or.inr rfl)⟩
          · rw [cl2, sg_X7_advance_134, g2, g3, if_pos hea, ck_t (by omega), g11, if_neg h59, w1]
          · rw [ml1, if_neg hdg, sg_X9_stepOn_115, if_pos rfl, if_neg h59, z10, w1]
  · rw [if_neg hal] at mdl
    have z10 : (cm_up (cm_up E 613 10 a) 613 14 a) 613 10 = a := rfl
    refine ⟨cm_up (cm_up (cm_up C 3 3 a) 3 4 0) 3 2 a, cm_up (cm_up (cm_up (cm_up E 613 10 a) 613 14 a) 613 12 0) 613 15 a, ?_, ?_, ⟨rfl, rfl, rfl, rfl, ⟨?_, ?_, ?_⟩, fun z => absurd rfl z, fun z => ?_, by show (0 : Int) ≤ 0; omega, by show (0 : Int) ≤ 4; omega⟩, ?_, ⟨rfl, fun x hx => by rw [up_row hx, up_row hx, up_row hx]⟩, ⟨fun j h1 h2 h3 h4 h5 => by rw [up_same, u1_ne h5, up_same, u1_ne h2, up_same, u1_ne h4, up_same, u1_ne h1], fun x hx => by rw [up_row hx, up_row hx, up_row hx, up_row hx]⟩⟩
    · rw [sg_X7_advance_0, a4, sg_X7_advance_8, q33, q31, if_neg hal, if_neg hal]
    · rw [mdl, sg_X9_stepOn_55, if_pos rfl, z10]
    · show 0 ≤ a
      omega
    · show a ≤ a
      omega
    · show a ≤ len
      omega
    · exact absurd z (by show ¬ (0 : Int) = 2; omega)
    · show C 3 2 ≤ a
      omega
