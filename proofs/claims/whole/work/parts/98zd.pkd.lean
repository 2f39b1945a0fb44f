/-! one packet: what both have written is alike -/
variable {C C2 E F : Nat → Int → Int} {X : cm_X} {S : Nat → Int → Int} {L : List CT} {K0 B0 f a b : Int → Int} {h0 pk : Int}
/-- what stays as it is over a writing -/
def fxd (S : Nat → Int → Int) (L : List CT) (pk h0 : Int) (K0 B0 : Int → Int) : Prop := gL S L ∧ nS S ∧ vS pk K0 B0 S ∧ S 0 9 = h0 ∧ 0 ≤ h0 ∧ lnE K0 B0 h0 ∧ vDk pk K0 B0 h0 ∧ L.length ≤ 125
/-- the class in a writing -/
def wC (S : Nat → Int → Int) (L : List CT) (C : Nat → Int → Int) : Prop := cHol C L ∧ (C 16 = S 1 ∧ C 17 = S 2 ∧ C 20 = S 5 ∧ C 15 7 = S 0 7 ∧ C 15 8 = S 0 8) ∧ zOk C ∧ fOk (C 10) (C 614 4) (C 615) ∧ 0 ≤ C 15 9 ∧ C 15 9 ≤ C 9 0
/-- and beside it the reference -/
def wJ (S : Nat → Int → Int) (L : List CT) (h0 : Int) (K0 B0 : Int → Int) (C E : Nat → Int → Int) : Prop := (mHol E L ∧ rQ S (E 617)) ∧ ((∀ j, 0 ≤ j → j < 4 → E 614 j = C 9 j) ∧ E 614 4 = C 614 4 ∧ E 615 = C 615 ∧ E 613 21 = -1) ∧ (E 617 244 = C 15 9 ∧ E 617 245 = C 15 10) ∧ (rDk (C 11) (C 12) (C 13) (E 619) (E 620) (C 15 9) ∧ vDk (C 9 1) (E 619) (E 620) (C 15 9)) ∧ h0 ≤ C 15 9 ∧ eqB h0 K0 B0 (E 619) (E 620)
theorem ct_at {t : Int} (t0 : 0 ≤ t) (t1 : t < (L.length : Int)) : ∃ (n : Nat) (x : CT), (n : Int) = t ∧ L[n]? = some x := ⟨t.toNat, L[t.toNat]'(by omega), by omega, List.getElem?_eq_getElem (by omega)⟩
theorem xk {x : CT} (h : xOk S x) : x.1 = 2 ∨ x.1 = 3 ∨ x.1 = 4 ∨ x.1 = 5 ∨ x.1 = 6 := by
  rcases h with ⟨z, -⟩ | ⟨z, -⟩ | ⟨z, -⟩ | z | z
  · omega
  · omega
  · have := congrArg (fun z : CT => z.1) z; dsimp only at this; omega
  · have := congrArg (fun z : CT => z.1) z; dsimp only at this; omega
  · have := congrArg (fun z : CT => z.1) z; dsimp only at this; omega
theorem flt_X (hj : wJ S L h0 K0 B0 C E) {y : Int} (y0 : 0 ≤ y) : fltX E y ↔ flt (C 614 4) (C 615) y := by
  obtain ⟨-, ⟨-, j4, j5, j6⟩, -⟩ := hj
  unfold fltX
  rw [j4, j5, j6]
  exact ⟨fun z => z.resolve_left (by omega), Or.inr⟩
/-- the places are the same -/
theorem pk_f (hx : fxd S L (C 9 1) h0 K0 B0) (hw : wC S L C) (hj : wJ S L h0 K0 B0 C E) {t0 m m1 m2 s : Int} (t00 : 0 ≤ t0) (t01 : t0 + C 9 1 ≤ (L.length : Int)) (hpl : plQ (S 1) (S 4) (S 6) L (t0 + C 9 1) (upf (E 624) t0 (t0 + C 9 1) (C 15 9 + C 9 2)) a b) (hb : bkW (r92 C (a, b)) C2 t0 m) (hk : pktW E F t0 m1 m2 s f) (hf : ∀ t, f t = if t0 ≤ t ∧ t < t0 + E 614 1 then E 617 244 + m1 + (t - t0) else E 624 t) (hm : m = m1 + m2) (m10 : 0 ≤ m1) (m1r : m1 ≤ C 9 2) (m20 : 0 ≤ m2) (m2k : m2 ≤ C 9 1) (h12 : 0 < m2 → m1 = C 9 2) (hroom : C 15 9 + (C 9 2 + C 9 1) ≤ 400) (hm2 : m1 = C 9 2) : f = upf (E 624) t0 (t0 + C 9 1) (C 15 9 + C 9 2) := by
  funext t
  rw [hf t, hj.2.1.1 1 (by omega) (by omega), hj.2.2.1.1, hm2]
  unfold upf
  rfl
theorem pk_ct (hx : fxd S L (C 9 1) h0 K0 B0) (hw : wC S L C) (hj : wJ S L h0 K0 B0 C E) {t0 m m1 m2 s : Int} (t00 : 0 ≤ t0) (t01 : t0 + C 9 1 ≤ (L.length : Int)) (hpl : plQ (S 1) (S 4) (S 6) L (t0 + C 9 1) (upf (E 624) t0 (t0 + C 9 1) (C 15 9 + C 9 2)) a b) (hb : bkW (r92 C (a, b)) C2 t0 m) (hk : pktW E F t0 m1 m2 s f) (hf : ∀ t, f t = if t0 ≤ t ∧ t < t0 + E 614 1 then E 617 244 + m1 + (t - t0) else E 624 t) (hm : m = m1 + m2) (m10 : 0 ≤ m1) (m1r : m1 ≤ C 9 2) (m20 : 0 ≤ m2) (m2k : m2 ≤ C 9 1) (h12 : 0 < m2 → m1 = C 9 2) (hroom : C 15 9 + (C 9 2 + C 9 1) ≤ 400) {o : Int} (o0 : 0 ≤ o) (o1 : o < m2) : ∃ (n : Nat) (x : CT), (n : Int) = t0 + o ∧ L[n]? = some x ∧ xOk S x ∧ f n = C 15 9 + C 9 2 + o ∧ (flt (C 614 4) (C 615) (C 15 9 + C 9 2 + o) → F 619 (C 15 9 + C 9 2 + o) = 8 ∧ C2 11 (C 15 9 + C 9 2 + o) = 8 ∧ C2 12 (C 15 9 + C 9 2 + o) = 0) ∧ (¬ flt (C 614 4) (C 615) (C 15 9 + C 9 2 + o) → F 619 (C 15 9 + C 9 2 + o) = x.1 ∧ C2 11 (C 15 9 + C 9 2 + o) = x.1 ∧ C2 12 (C 15 9 + C 9 2 + o) = lnC C n ∧ (∀ i, 0 ≤ i → i < 15 → F 620 (15 * (C 15 9 + C 9 2 + o) + i) = bodM (cm_ua E 624 f) n i) ∧ ∀ i, 0 ≤ i → i < lnC C n → C2 13 ((C 15 9 + C 9 2 + o) * 15 + i) = bodM (cm_ua E 624 f) n i) := by
  have hm2 := h12 (by omega)
  have ef := pk_f hx hw hj t00 t01 hpl hb hk hf hm m10 m1r m20 m2k h12 hroom hm2
  obtain ⟨g1, g2, g3, g4, g5, g6, g7, g8⟩ := hx
  obtain ⟨n, x, e1, e2⟩ := ct_at (L := L) (t := t0 + o) (by omega) (by omega)
  have hxk := g1.2.2.1 _ (List.mem_of_getElem? e2)
  have hkd := xk hxk
  have hwc := hw.1
  obtain ⟨c1, c2, c3⟩ := hwc.2 n x e2
  have hjm := hj.1.1
  obtain ⟨k1, k2⟩ := hjm.2 n x e2
  have h244 : E 617 244 = C 15 9 := hj.2.2.1.1
  have eX := flt_X hj (y := C 15 9 + C 9 2 + o) (by have := hw.2.2.2.2; have := hw.2.2.1.2.2.1; omega)
  obtain ⟨q1, q2, q3, q4, q5, q6⟩ := hb
  obtain ⟨p1, p2, p3, p4, p5, p6, p7, p8, p9, p10⟩ := hk
  rw [h244, hm2] at p4 p7
  have d15 : (r92 C (a, b)) 15 9 = C 15 9 := rfl
  have d9 : (r92 C (a, b)) 9 2 = C 9 2 := rfl
  have et : t0 + (C 15 9 + C 9 2 + o - C 15 9 - C 9 2) = (n : Int) := by omega
  have et2 : t0 + (C 15 9 + C 9 2 + o - (C 15 9 + C 9 2)) = (n : Int) := by omega
  have z23 : (r92 C (a, b)) 23 n = x.1 := c1
  have k1' : E 622 n = x.1 := k1
  have hfn : f n = C 15 9 + C 9 2 + o := by
    rw [ef]
    unfold upf
    rw [if_pos (by omega)]
    omega
  rw [d15] at q2 q3 q4
  rw [d9] at q4
  have y11 := q2 (C 15 9 + C 9 2 + o)
  have y12 := q3 (C 15 9 + C 9 2 + o)
  rw [if_pos (by omega)] at y11 y12
  have y19 := p4 (C 15 9 + C 9 2 + o)
  rw [if_neg (by omega), if_pos (by omega)] at y19
  have ck : ckd (r92 C (a, b)) t0 (C 15 9 + C 9 2 + o) = wK C (C 15 9 + C 9 2 + o) x.1 := by
    unfold ckd
    rw [d15, d9, if_neg (by omega), et, z23]
    rfl
  have cl : cln (r92 C (a, b)) t0 (C 15 9 + C 9 2 + o) = wL C (C 15 9 + C 9 2 + o) x.1 (lnC C n) := by
    unfold cln
    rw [d15, d9, if_neg (by omega), et, z23]
    rfl
  refine ⟨n, x, e1, e2, hxk, hfn, fun hq => ?_, fun hq => ?_⟩
  · refine ⟨?_, ?_, ?_⟩
    · rw [y19]
      unfold kdX
      rw [tv_t (eX.mpr hq), if_pos rfl]
    · rw [y11, ck]
      unfold wK
      rw [tv_t hq, if_pos ⟨rfl, by omega, by omega⟩]
    · rw [y12, cl]
      unfold wL
      rw [tv_t hq, if_pos ⟨rfl, by omega, by omega⟩]
  · have l0 : wL C (C 15 9 + C 9 2 + o) x.1 (lnC C n) = lnC C n := by
      unfold wL
      rw [tv_f hq, if_neg (fun z => by have := z.1; omega)]
    have hpl' : plQ (S 1) (S 4) (S 6) L (t0 + C 9 1) ((cm_ua E 624 f) 624) ((r92 C (a, b)) 19) ((r92 C (a, b)) 21) := by
      show plQ (S 1) (S 4) (S 6) L (t0 + C 9 1) f a b
      rw [ef]; exact hpl
    refine ⟨?_, ?_, ?_, fun i i0 i1 => ?_, fun i i0 i1 => ?_⟩
    · rw [y19]
      unfold kdX
      rw [tv_f (fun z => hq (eX.mp z)), if_neg (by omega), et2, k1']
    · rw [y11, ck]
      unfold wK
      rw [tv_f hq, if_neg (fun z => by have := z.1; omega)]
    · rw [y12, cl, l0]
    · rw [p7 _ (by omega) (by omega) (fun z => hq (eX.mp z)) i i0 i1, et2]
    · have := q4 (C 15 9 + C 9 2 + o) (by omega) (by omega) i i0 (by rw [cl, l0]; exact i1)
      rw [this, et]
      refine (bod_eq (D := r92 C (a, b)) (E := cm_ua E 624 f) (q := t0 + C 9 1) g1 g2 hjm hj.1.2 hwc hw.2.1.1 hw.2.1.2.1 hw.2.1.2.2.1 hw.2.1.2.2.2.1 hw.2.1.2.2.2.2 hpl' e2 (by omega) (fun z => ?_) i0 i1).symm
      obtain ⟨x1, x2, x3⟩ := x
      dsimp only at z
      rw [z] at e2
      have := ct_6 g1 e2
      omega
theorem pkd_eq (hx : fxd S L (C 9 1) h0 K0 B0) (hw : wC S L C) (hj : wJ S L h0 K0 B0 C E) {t0 m m1 m2 s : Int} (t00 : 0 ≤ t0) (t01 : t0 + C 9 1 ≤ (L.length : Int)) (hpl : plQ (S 1) (S 4) (S 6) L (t0 + C 9 1) (upf (E 624) t0 (t0 + C 9 1) (C 15 9 + C 9 2)) a b) (hb : bkW (r92 C (a, b)) C2 t0 m) (hk : pktW E F t0 m1 m2 s f) (hf : ∀ t, f t = if t0 ≤ t ∧ t < t0 + E 614 1 then E 617 244 + m1 + (t - t0) else E 624 t) (hm : m = m1 + m2) (m10 : 0 ≤ m1) (m1r : m1 ≤ C 9 2) (m20 : 0 ≤ m2) (m2k : m2 ≤ C 9 1) (h12 : 0 < m2 → m1 = C 9 2) (hroom : C 15 9 + (C 9 2 + C 9 1) ≤ 400) : eqB (C 15 9) (E 619) (E 620) (F 619) (F 620) := by
  have h244 : E 617 244 = C 15 9 := hj.2.2.1.1
  obtain ⟨p1, p2, p3, p4, p5, p6, p7, p8, p9, p10⟩ := hk
  rw [h244] at p4 p8
  exact fun y y0 y1 => ⟨by rw [p4, if_neg (by omega), if_neg (by omega)], fun i i0 i1 => p8 _ (by omega)⟩
theorem pk_link (hx : fxd S L (C 9 1) h0 K0 B0) (hw : wC S L C) (hj : wJ S L h0 K0 B0 C E) {t0 m m1 m2 s : Int} (t00 : 0 ≤ t0) (t01 : t0 + C 9 1 ≤ (L.length : Int)) (hpl : plQ (S 1) (S 4) (S 6) L (t0 + C 9 1) (upf (E 624) t0 (t0 + C 9 1) (C 15 9 + C 9 2)) a b) (hb : bkW (r92 C (a, b)) C2 t0 m) (hk : pktW E F t0 m1 m2 s f) (hf : ∀ t, f t = if t0 ≤ t ∧ t < t0 + E 614 1 then E 617 244 + m1 + (t - t0) else E 624 t) (hm : m = m1 + m2) (m10 : 0 ≤ m1) (m1r : m1 ≤ C 9 2) (m20 : 0 ≤ m2) (m2k : m2 ≤ C 9 1) (h12 : 0 < m2 → m1 = C 9 2) (hroom : C 15 9 + (C 9 2 + C 9 1) ≤ 400) {y : Int} (y0 : C 15 9 ≤ y) (y1 : y < C 15 9 + m) (y2 : y < C 15 9 + C 9 2) : F 619 y = 1 ∧ C2 11 y = 1 ∧ C2 12 y = 0 := by
  have h244 : E 617 244 = C 15 9 := hj.2.2.1.1
  obtain ⟨q1, q2, q3, q4, q5, q6⟩ := hb
  obtain ⟨p1, p2, p3, p4, p5, p6, p7, p8, p9, p10⟩ := hk
  have d15 : (r92 C (a, b)) 15 9 = C 15 9 := rfl
  have d9 : (r92 C (a, b)) 9 2 = C 9 2 := rfl
  rw [h244] at p4
  rw [d15] at q2 q3
  have hlt : y < C 15 9 + m1 := by
    by_cases h : 0 < m2
    · have := h12 h; omega
    · omega
  refine ⟨by rw [p4, if_pos (by omega)], ?_, ?_⟩
  · rw [q2, if_pos (by omega)]
    unfold ckd
    rw [d15, d9, if_pos y2]
  · rw [q3, if_pos (by omega)]
    unfold cln
    rw [d15, d9, if_pos y2]
theorem mLen_ln {x : CT} {n : Nat} {l : Int} (hx : xOk S x) (hc : cHol C L) (e17 : C 17 = S 2) (hn : L[n]? = some x) (h4 : x.1 = 4 → l = S 2 x.2.1) : lnC C n = mLen x.1 l := by
  obtain ⟨c1, c2, c3⟩ := hc.2 n x hn
  unfold lnC mLen
  rw [c1, c2, e17]
  by_cases h3 : x.1 = 3
  · rw [if_pos h3, if_pos h3]
  · rw [if_neg h3, if_neg h3]
    by_cases h4' : x.1 = 4
    · rw [if_pos h4', if_pos h4', h4 h4']
    · rw [if_neg h4', if_neg h4']
theorem pk_rDk (hx : fxd S L (C 9 1) h0 K0 B0) (hw : wC S L C) (hj : wJ S L h0 K0 B0 C E) {t0 m m1 m2 s : Int} (t00 : 0 ≤ t0) (t01 : t0 + C 9 1 ≤ (L.length : Int)) (hpl : plQ (S 1) (S 4) (S 6) L (t0 + C 9 1) (upf (E 624) t0 (t0 + C 9 1) (C 15 9 + C 9 2)) a b) (hb : bkW (r92 C (a, b)) C2 t0 m) (hk : pktW E F t0 m1 m2 s f) (hf : ∀ t, f t = if t0 ≤ t ∧ t < t0 + E 614 1 then E 617 244 + m1 + (t - t0) else E 624 t) (hm : m = m1 + m2) (m10 : 0 ≤ m1) (m1r : m1 ≤ C 9 2) (m20 : 0 ≤ m2) (m2k : m2 ≤ C 9 1) (h12 : 0 < m2 → m1 = C 9 2) (hroom : C 15 9 + (C 9 2 + C 9 1) ≤ 400) : rDk (C2 11) (C2 12) (C2 13) (F 619) (F 620) (C 15 9 + m) := by
  have e := pkd_eq hx hw hj t00 t01 hpl hb hk hf hm m10 m1r m20 m2k h12 hroom
  intro y y0 y1
  by_cases hy : y < C 15 9
  · refine rDk_eq e (fun z z0 z1 => ?_) hj.2.2.2.1.1 y y0 hy
    obtain ⟨q1, q2, q3, q4, q5, q6⟩ := hb
    have d15 : (r92 C (a, b)) 15 9 = C 15 9 := rfl
    rw [d15] at q2 q3 q5
    refine ⟨by rw [q2, if_neg (by omega)]; rfl, by rw [q3, if_neg (by omega)]; rfl, fun i i0 i1 => by rw [q5 _ (by omega)]; rfl⟩
  · by_cases hl : y < C 15 9 + C 9 2
    · obtain ⟨l1, l2, l3⟩ := pk_link hx hw hj t00 t01 hpl hb hk hf hm m10 m1r m20 m2k h12 hroom (by omega) y1 hl
      rw [l1, l2, l3]
      refine ⟨rfl, by omega, fun z => by omega, ?_, fun i i0 i1 => by omega⟩
      unfold mLen
      omega
    · have hm2 : 0 < m2 := by omega
      obtain ⟨n, x, c1, c2, c3, c4, c5, c6⟩ := pk_ct hx hw hj t00 t01 hpl hb hk hf hm m10 m1r m20 m2k h12 hroom (o := y - C 15 9 - C 9 2) (by omega) (by omega)
      rw [show C 15 9 + C 9 2 + (y - C 15 9 - C 9 2) = y by omega] at c4 c5 c6
      by_cases hq : flt (C 614 4) (C 615) y
      · obtain ⟨l1, l2, l3⟩ := c5 hq
        rw [l1, l2, l3]
        refine ⟨rfl, by omega, fun z => by omega, ?_, fun i i0 i1 => by omega⟩
        unfold mLen
        omega
      · obtain ⟨l1, l2, l3, l4, l5⟩ := c6 hq
        have hkd := xk c3
        obtain ⟨g1, g2, -⟩ := hx
        have h4 : x.1 = 4 → F 620 (15 * y + 8) = S 2 x.2.1 ∧ 0 ≤ x.2.1 ∧ x.2.1 < 12 := fun z => by
          obtain ⟨x1, x2, x3⟩ := x
          dsimp only at z
          rw [z] at c2
          rw [l4 8 (by omega) (by omega)]
          exact ⟨bod_4l (E := cm_ua E 624 f) g1 g2 hj.1.1 hj.1.2 c2, (ct_4 g1 c2).2.1⟩
        rw [l1, l2, l3]
        refine ⟨rfl, by omega, fun z => ?_, mLen_ln c3 hw.1 hw.2.1.2.1 c2 (fun z => (h4 z).1), fun i i0 i1 => ?_⟩
        · have z' := h4 z
          rw [z'.1]
          exact (g2.2.1 _ z'.2.1 z'.2.2).2.1
        · have hl15 : lnC C n ≤ 15 := by
            rw [mLen_ln c3 hw.1 hw.2.1.2.1 c2 (fun z => (h4 z).1)]
            exact (mLen_b (fun z => by
              have z' := h4 z
              rw [z'.1]
              exact (g2.2.1 _ z'.2.1 z'.2.2).2.1)).2
          rw [l5 i i0 i1, l4 i i0 (by omega)]
