/-! a writing: both, turn by turn -/
variable {C C2 E F : Nat → Int → Int} {X : cm_X} {S : Nat → Int → Int} {L : List CT} {K0 B0 f a b : Int → Int} {h0 pk P : Int}
/-- the reference in a writing, beside the class: p packets done, q contents placed -/
def jE (S : Nat → Int → Int) (L : List CT) (h0 : Int) (K0 B0 : Int → Int) (pk P lc p q mo : Int) (C E : Nat → Int → Int) : Prop := wJ S L h0 K0 B0 C E ∧ plQ (S 1) (S 4) (S 6) L q (E 624) (C 19) (C 21) ∧ (pk * p ≤ q ∧ q ≤ pk * p + pk ∧ q ≤ (L.length : Int)) ∧ dnQ S L h0 (E 624) (E 619) (E 620) (C 15 9) (pk * p) ∧ (p = P → E 624 ((L.length : Int) - 1) = C 15 9 - 1 ∧ goodM (E 619) pk (C 15 9 - 1)) ∧ (lc = mo - E 613 27 ∨ (400 ≤ lc + C 15 9 ∧ 400 ≤ mo - E 613 27 + C 15 9)) ∧ E 613 26 = P ∧ 0 ≤ E 613 27 ∧ E 613 27 ≤ mo ∧ mo ≤ 1000000
/-- how it ends -/
def jO (S : Nat → Int → Int) (L : List CT) (h0 : Int) (K0 B0 : Int → Int) (pk v w : Int) (C E : Nat → Int → Int) : Prop := (E 617 244 = C 15 9 ∧ E 617 245 = C 15 10) ∧ (rDk (C 11) (C 12) (C 13) (E 619) (E 620) (C 15 9) ∧ vDk pk (E 619) (E 620) (C 15 9)) ∧ (h0 ≤ C 15 9 ∧ eqB h0 K0 B0 (E 619) (E 620)) ∧ ((v = 1 ∧ w = 0 ∧ plQ (S 1) (S 4) (S 6) L (L.length : Int) (E 624) (C 19) (C 21) ∧ dnQ S L h0 (E 624) (E 619) (E 620) (C 15 9) (L.length : Int) ∧ E 624 ((L.length : Int) - 1) = C 15 9 - 1 ∧ goodM (E 619) pk (C 15 9 - 1)) ∨ (v = 0 ∧ w ≠ 0))
/-- what the class leaves -/
def cFr (C C' : Nat → Int → Int) : Prop := (∀ j, j ≠ 9 → j ≠ 10 → C' 15 j = C 15 j) ∧ C 15 9 ≤ C' 15 9 ∧ ∀ a : Nat, a ≠ 11 → a ≠ 12 → a ≠ 13 → a ≠ 15 → a ≠ 19 → a ≠ 21 → C' a = C a
theorem cFr_rf : cFr C C := ⟨fun _ _ _ => rfl, Int.le_refl _, fun _ _ _ _ _ _ _ => rfl⟩
theorem cFr_tr {C' C'' : Nat → Int → Int} (h : cFr C C') (k : cFr C' C'') : cFr C C'' := ⟨fun j a b => (k.1 j a b).trans (h.1 j a b), Int.le_trans h.2.1 k.2.1, fun x a b c d e f => (k.2.2 x a b c d e f).trans (h.2.2 x a b c d e f)⟩
theorem wC_fr {C' : Nat → Int → Int} (hw : wC S L C) (hf : cFr C C') (hz : zOk C') (h1 : C' 15 9 ≤ C' 9 0) : wC S L C' := by
  obtain ⟨w1, ⟨w2, w3, w4, w5, w6⟩, w7, w8, w9, w10⟩ := hw
  obtain ⟨f1, f2, f3⟩ := hf
  have g : ∀ a : Nat, 22 ≤ a → C' a = C a := fun a ha => f3 a (by omega) (by omega) (by omega) (by omega) (by omega) (by omega)
  refine ⟨⟨by rw [g 22 (by omega)]; exact w1.1, fun t x h => by rw [g 23 (by omega), g 24 (by omega), g 25 (by omega)]; exact w1.2 t x h⟩, ⟨?_, ?_, ?_, ?_, ?_⟩, hz, ?_, by omega, h1⟩
  · rw [f3 16 (by omega) (by omega) (by omega) (by omega) (by omega) (by omega)]; exact w2
  · rw [f3 17 (by omega) (by omega) (by omega) (by omega) (by omega) (by omega)]; exact w3
  · rw [f3 20 (by omega) (by omega) (by omega) (by omega) (by omega) (by omega)]; exact w4
  · rw [f1 7 (by omega) (by omega)]; exact w5
  · rw [f1 8 (by omega) (by omega)]; exact w6
  · rw [f3 10 (by omega) (by omega) (by omega) (by omega) (by omega) (by omega), g 614 (by omega), g 615 (by omega)]; exact w8
theorem okD_h (hx : fxd S L pk h0 K0 B0) (hw : wC S L C) {t : Int} (t0 : 0 ≤ t) (t1 : t < (L.length : Int)) : okD C t := by
  obtain ⟨g1, g2, -⟩ := hx
  obtain ⟨n, x, e1, e2⟩ := ct_at (L := L) t0 t1
  obtain ⟨c1, c2, c3⟩ := hw.1.2 n x e2
  rw [e1] at c1 c2 c3
  obtain ⟨x1, x2, x3⟩ := x
  dsimp only at c1 c2 c3
  unfold okD
  rw [c1, c2, c3, hw.2.1.2.1]
  refine ⟨fun z => ?_, fun z => ?_⟩
  · rw [z] at e2
    have w := ct_3 g1 e2 g2
    exact ⟨w.1.1, w.1.2.1.1, w.2⟩
  · rw [z] at e2
    have w := ct_4 g1 e2
    exact ⟨w.2.1, (g2.2.1 _ w.2.1.1 w.2.1.2).2.1⟩
theorem okT_h (hx : fxd S L pk h0 K0 B0) (hm : mHol E L) (hr : rQ S (E 617)) {t : Int} (t0 : 0 ≤ t) (t1 : t < (L.length : Int)) : okT E t := by
  obtain ⟨g1, g2, g3, g4, g5, g6, g7, g8⟩ := hx
  obtain ⟨n, x, e1, e2⟩ := ct_at (L := L) t0 t1
  obtain ⟨c1, c2⟩ := hm.2 n x e2
  rw [e1] at c1 c2
  obtain ⟨x1, x2, x3⟩ := x
  dsimp only at c1
  refine ⟨⟨t0, by omega⟩, fun z => ?_, fun z => ?_⟩
  · rw [c1] at z
    rw [z] at e2 c2
    have w := ct_3 g1 e2 g2
    rw [whs3] at c2
    omega
  · rw [c1] at z
    rw [z] at e2 c2
    have w := ct_4 g1 e2
    rw [whs4] at c2
    obtain ⟨r, r1, r2⟩ := hr
    rw [c2, r2 _ (by omega) (by omega), (r1.1 x2 w.2.1.1 w.2.1.2).2.1]
    exact ⟨w.2.1, (g2.2.1 _ w.2.1.1 w.2.1.2).2.1⟩
/-- the class: one packet -/
theorem ev_lay1 {y3 lc t0 tn : Int} (hx : fxd S L (C 9 1) h0 K0 B0) (hw : wC S L C) (t00 : 0 ≤ t0) (t01 : t0 + C 9 1 ≤ (L.length : Int)) (l0 : 0 ≤ lc) (tn1 : tn < 400) (hr : rm C (C 15 9)) : ∃ a b C2, cm_x 9 9 [some (.inr (.inr 22)), some (.inr (.inr 15)), some (.inr (.inr 9)), some (.inl (y3)), some (.inl (lc)), some (.inl (t0)), some (.inl (tn)), none, none, none, none] [] (cm_hp C X) = (if cm_mn (C 9 2 + C 9 1) lc < C 9 2 + C 9 1 then some (.inl (some (.inl (0))), cm_hp C2 X) else if tv (spr C (C 15 9)) = 0 then cm_x 9 9 [some (.inr (.inr 22)), some (.inr (.inr 15)), some (.inr (.inr 9)), some (.inl (y3)), some (.inl (cm_wr (lc - cm_mn (C 9 2 + C 9 1) lc))), some (.inl (t0 + C 9 1)), some (.inl (cm_wr (tn + 1))), none, none, none, none] [] (cm_hp C2 X) else cm_x 9 9 [some (.inr (.inr 22)), some (.inr (.inr 15)), some (.inr (.inr 9)), some (.inl (y3)), some (.inl (cm_wr (lc - cm_mn (C 9 2 + C 9 1) lc))), some (.inl (t0)), some (.inl (cm_wr (tn + 1))), none, none, none, none] [] (cm_hp (cm_up C2 15 10 (cm_wr (C 15 10 + 1))) X)) ∧ bkW (r92 C (a, b)) C2 t0 (cm_mn (C 9 2 + C 9 1) lc) ∧ zOk C2 ∧ cFr C C2 ∧ ∀ A W q f, plQ (S 1) A W L q f (C 19) (C 21) → t0 ≤ q → q ≤ t0 + C 9 1 → plQ (S 1) A W L (t0 + C 9 1) (upf f t0 (t0 + C 9 1) (C 15 9 + C 9 2)) a b := by
  have hok := fun (t : Int) (h1 : t0 ≤ t) (h2 : t < t0 + C 9 1) => okD_h hx hw (t := t) (by omega) (by omega)
  obtain ⟨g1, g2, g3, g4, g5, g6, g7, g8⟩ := hx
  obtain ⟨w1, ⟨w2, w3, w4, w5, w6⟩, w7, w8, w9, w10⟩ := hw
  obtain ⟨z1, z2, z3, z4, z5⟩ := w7
  have hr' : C 15 9 + (C 9 2 + C 9 1) + C 9 3 ≤ C 9 0 := hr
  have hmn : 0 ≤ cm_mn (C 9 2 + C 9 1) lc ∧ cm_mn (C 9 2 + C 9 1) lc ≤ C 9 2 + C 9 1 := by
    unfold cm_mn
    split
    · omega
    · omega
  obtain ⟨a, b, r1, r2⟩ := ev_placeP (D := C) (X := X) (S := S) (L := L) (t0 := t0) (s := C 15 9 + C 9 2) (m := C 9 1) g1 g2 w1 g8 w2 t00 (by omega) t01 (by omega) (by omega)
  have q15 : (r92 C (a, b)) 15 = C 15 := rfl
  have q9 : (r92 C (a, b)) 9 = C 9 := rfl
  have q22 : (r92 C (a, b)) 22 = C 22 := rfl
  have h22 : C 22 3 = L.length := w1.1
  generalize hmm : cm_mn (C 9 2 + C 9 1) lc = m at hmn
  obtain ⟨C2, b1, b2⟩ := ev_blks (D := r92 C (a, b)) (X := X) (t0 := t0) (m := m) (y3 := y3) (y4 := lc) (y6 := tn) (y7 := tv (spr C (C 15 9))) (y8 := C 9 2 + C 9 1) ⟨z1, z2, z3, z4, z5⟩ w8 w9 (by rw [q15, q9]; omega) hmn.1 (by rw [q9]; exact hmn.2) t00 (by rw [q9, q22, h22]; exact t01) (by rw [q22, h22]; omega) hok
  have hz2 : zOk C2 := bkW_z (D := r92 C (a, b)) ⟨z1, z2, z3, z4, z5⟩ b2 (by rw [q9]; exact hmn.2) hok
  have hb := b2
  obtain ⟨p1, p2, p3, p4, p5, p6⟩ := hb
  have c9 : C2 9 = C 9 := p6 9 (by omega) (by omega) (by omega) (by omega)
  have c10 : C2 15 10 = C 15 10 := by rw [p1, q15, u1_ne (by omega)]
  refine ⟨a, b, C2, ?_, b2, hz2, ⟨fun j h9 h10 => by rw [p1, q15, u1_ne h9], by rw [p1, u1_eq, q15]; omega, fun x x1 x2 x3 x4 x5 x6 => ?_⟩, r2⟩
  · rw [sg_X1_lay_9, if_pos tn1, h22, if_pos (by omega), ev_room ⟨z1, z2, z3, z4, z5⟩ w9 (by omega), aft_v, sg_X1_lay_34, tv_t hr, if_neg (by omega), ev_spare ⟨z1, z2, z3, z4, z5⟩ w8 w9 hr, aft_v, sg_X1_lay_47, cm_wr_id (x := C 15 9 + C 9 2) (by omega) (by omega), cm_wr_id (x := C 9 2 + C 9 1) (by omega) (by omega), hmm, r1, aft_n, sg_X1_lay_89, b1, sg_X1_lay_92, if_neg (by omega), c9, c10, cm_wr_id (x := t0 + C 9 1) (by omega) (by omega)]
  · rw [p6 x x1 x2 x3 x4]
    unfold r92
    rw [ua_row x6, ua_row x5]
