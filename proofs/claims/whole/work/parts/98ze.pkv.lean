/-! one packet: what is written holds -/
variable {C C2 E F : Nat → Int → Int} {X : cm_X} {S : Nat → Int → Int} {L : List CT} {K0 B0 f a b : Int → Int} {h0 pk : Int}
theorem dnX_hd {K B : Int → Int} {hd hd' : Int} {t : Nat} {x : CT} (h : dnX S L h0 f K B hd t x) (h' : f t < hd') : dnX S L h0 f K B hd' t x := ⟨⟨h.1.1, h'⟩, h.2⟩
/-- contents of packets ahead stay -/
theorem pk_dn0 (hx : fxd S L (C 9 1) h0 K0 B0) (hw : wC S L C) (hj : wJ S L h0 K0 B0 C E) {t0 m m1 m2 s : Int} (t00 : 0 ≤ t0) (t01 : t0 + C 9 1 ≤ (L.length : Int)) (hpl : plQ (S 1) (S 4) (S 6) L (t0 + C 9 1) (upf (E 624) t0 (t0 + C 9 1) (C 15 9 + C 9 2)) a b) (hb : bkW (r92 C (a, b)) C2 t0 m) (hk : pktW E F t0 m1 m2 s f) (hf : ∀ t, f t = if t0 ≤ t ∧ t < t0 + E 614 1 then E 617 244 + m1 + (t - t0) else E 624 t) (hm : m = m1 + m2) (m10 : 0 ≤ m1) (m1r : m1 ≤ C 9 2) (m20 : 0 ≤ m2) (m2k : m2 ≤ C 9 1) (h12 : 0 < m2 → m1 = C 9 2) (hroom : C 15 9 + (C 9 2 + C 9 1) ≤ 400) (hdn : dnQ S L h0 (E 624) (E 619) (E 620) (C 15 9) t0) : dnQ S L h0 f (F 619) (F 620) (C 15 9 + m) t0 := by
  have e := pkd_eq hx hw hj t00 t01 hpl hb hk hf hm m10 m1r m20 m2k h12 hroom
  obtain ⟨gg, gn, -, -, z0, -⟩ := hx
  have ef : ∀ t : Nat, (t : Int) < t0 → f t = E 624 t := fun t ht => by rw [hf, if_neg (by omega)]
  intro t x ht h
  obtain ⟨d1, d2, d3, d4, d5⟩ := hdn t x ht h
  have e1 := e (E 624 t) (by omega) d1.2
  unfold dnX
  rw [ef t ht, e1.1]
  refine ⟨⟨d1.1, by omega⟩, d2, fun t' ht' => by rw [ef t' (by omega)]; exact d3 t' ht', fun h4 => ?_, fun h5 i i0 i1 => ?_⟩
  · obtain ⟨a1, a2⟩ := d4 h4
    refine ⟨by rw [e1.2 8 (by omega) (by omega)]; exact a1, fun i i0 i1 => ?_⟩
    have l8 : S 2 x.2.1 ≤ 8 := by
      obtain ⟨x1, x2, x3⟩ := x
      dsimp only at h4
      rw [h4] at h
      have w := ct_4 gg h
      exact (gn.2.1 x2 w.2.1.1 w.2.1.2).2.1.2
    rw [e1.2 i i0 (by omega)]
    rcases a2 i i0 i1 with y | ⟨t', y1, y2, y3⟩
    · exact Or.inl y
    · exact Or.inr ⟨t', y1, y2, by rw [ef t' (by omega)]; exact y3⟩
  · rw [e1.2 i i0 (by omega)]; exact d5 h5 i i0 i1
/-- a packet without faulty blocks -/
theorem pk_dn (hx : fxd S L (C 9 1) h0 K0 B0) (hw : wC S L C) (hj : wJ S L h0 K0 B0 C E) {t0 m m1 m2 s : Int} (t00 : 0 ≤ t0) (t01 : t0 + C 9 1 ≤ (L.length : Int)) (hpl : plQ (S 1) (S 4) (S 6) L (t0 + C 9 1) (upf (E 624) t0 (t0 + C 9 1) (C 15 9 + C 9 2)) a b) (hb : bkW (r92 C (a, b)) C2 t0 m) (hk : pktW E F t0 m1 m2 s f) (hf : ∀ t, f t = if t0 ≤ t ∧ t < t0 + E 614 1 then E 617 244 + m1 + (t - t0) else E 624 t) (hm : m = m1 + m2) (m10 : 0 ≤ m1) (m1r : m1 ≤ C 9 2) (m20 : 0 ≤ m2) (m2k : m2 ≤ C 9 1) (h12 : 0 < m2 → m1 = C 9 2) (hroom : C 15 9 + (C 9 2 + C 9 1) ≤ 400) (hdn : dnQ S L h0 (E 624) (E 619) (E 620) (C 15 9) t0) (hfull : m2 = C 9 1) (hgood : ∀ o, 0 ≤ o → o < C 9 1 → ¬ flt (C 614 4) (C 615) (C 15 9 + C 9 2 + o)) : dnQ S L h0 f (F 619) (F 620) (C 15 9 + m) (t0 + C 9 1) := by
  have hdn' := pk_dn0 hx hw hj t00 t01 hpl hb hk hf hm m10 m1r m20 m2k h12 hroom hdn
  have hpc := hw.2.2.1.2.1
  have hm1 := h12 (by omega)
  intro t x ht h
  by_cases hlt : (t : Int) < t0
  · exact hdn' t x hlt h
  · obtain ⟨n, y, c1, c2, c3, c4, c5, c6⟩ := pk_ct hx hw hj t00 t01 hpl hb hk hf hm m10 m1r m20 m2k h12 hroom (o := (t : Int) - t0) (by omega) (by omega)
    have en : n = t := by omega
    rw [en] at c2 c4 c6
    rw [h] at c2
    have ey : x = y := Option.some.inj c2
    rw [← ey] at c6 c3
    obtain ⟨l1, l2, l3, l4, l5⟩ := c6 (hgood _ (by omega) (by omega))
    obtain ⟨g1, g2, -, -, z0, -⟩ := hx
    have hj0 := hj.2.2.2.2.1
    rw [← c4] at l1 l4
    refine ⟨⟨by omega, by omega⟩, l1, fun t' ht' => ?_, fun h4 => ?_, fun h5 i i0 i1 => ?_⟩
    · rw [c4]
      by_cases hb2 : (t' : Int) < t0
      · obtain ⟨n', y', b1, b2⟩ := ct_at (L := L) (t := (t' : Int)) (by omega) (by omega)
        have := hdn t' y' hb2 (by rw [show n' = t' by omega] at b2; exact b2)
        rw [hf, if_neg (by omega)]
        have := this.1.2
        omega
      · rw [hf, hj.2.1.1 1 (by omega) (by omega), hj.2.2.1.1, if_pos (by omega)]
        omega
    · obtain ⟨x1, x2, x3⟩ := x
      dsimp only at h4
      rw [h4] at h
      have w := ct_4 g1 h
      have l8 := (g2.2.1 x2 w.2.1.1 w.2.1.2).2.1.2
      refine ⟨by rw [l4 8 (by omega) (by omega)]; exact bod_4l (E := cm_ua E 624 f) g1 g2 hj.1.1 hj.1.2 h, fun i i0 i1 => ?_⟩
      dsimp only at i1
      rw [l4 i i0 (by omega)]
      exact bod_4 (E := cm_ua E 624 f) g1 g2 hj.1.1 hj.1.2 h i0 i1
    · obtain ⟨x1, x2, x3⟩ := x
      dsimp only at h5
      rw [h5] at h
      rw [l4 i i0 (by omega)]
      exact bod_5 (E := cm_ua E 624 f) g1 g2 hj.1.1 hj.1.2 h i0 i1
theorem pk_vDk (hx : fxd S L (C 9 1) h0 K0 B0) (hw : wC S L C) (hj : wJ S L h0 K0 B0 C E) {t0 m m1 m2 s : Int} (t00 : 0 ≤ t0) (t01 : t0 + C 9 1 ≤ (L.length : Int)) (hpl : plQ (S 1) (S 4) (S 6) L (t0 + C 9 1) (upf (E 624) t0 (t0 + C 9 1) (C 15 9 + C 9 2)) a b) (hb : bkW (r92 C (a, b)) C2 t0 m) (hk : pktW E F t0 m1 m2 s f) (hf : ∀ t, f t = if t0 ≤ t ∧ t < t0 + E 614 1 then E 617 244 + m1 + (t - t0) else E 624 t) (hm : m = m1 + m2) (m10 : 0 ≤ m1) (m1r : m1 ≤ C 9 2) (m20 : 0 ≤ m2) (m2k : m2 ≤ C 9 1) (h12 : 0 < m2 → m1 = C 9 2) (hroom : C 15 9 + (C 9 2 + C 9 1) ≤ 400) (hdn : dnQ S L h0 (E 624) (E 619) (E 620) (C 15 9) t0) : vDk (C 9 1) (F 619) (F 620) (C 15 9 + m) := by
  have e := pkd_eq hx hw hj t00 t01 hpl hb hk hf hm m10 m1r m20 m2k h12 hroom
  have hpc := hw.2.2.1.2.1
  have hrc := hw.2.2.1.2.2.1
  have hz0 := hw.2.2.2.2.1
  intro y y0 y1 yk
  by_cases hy : y < C 15 9
  · exact vDk_eq e (rDk_ln hj.2.2.2.1.1) hj.2.2.2.1.2 y y0 hy yk
  · by_cases hl : y < C 15 9 + C 9 2
    · have := (pk_link hx hw hj t00 t01 hpl hb hk hf hm m10 m1r m20 m2k h12 hroom (by omega) y1 hl).1
      omega
    · obtain ⟨n, x, c1, c2, c3, c4, c5, c6⟩ := pk_ct hx hw hj t00 t01 hpl hb hk hf hm m10 m1r m20 m2k h12 hroom (o := y - C 15 9 - C 9 2) (by omega) (by omega)
      rw [show C 15 9 + C 9 2 + (y - C 15 9 - C 9 2) = y by omega] at c4 c5 c6
      by_cases hq : flt (C 614 4) (C 615) y
      · have := (c5 hq).1
        omega
      · obtain ⟨l1, l2, l3, l4, l5⟩ := c6 hq
        have x6 : x.1 = 6 := by omega
        have hxs : L[n]? = some (6, x.2.1, x.2.2) := by
          rw [c2, ← x6]
        have g1 := hx.1
        have hlast := ct_6 g1 hxs
        have hfull : m2 = C 9 1 := by omega
        refine ⟨by omega, fun hgm => ?_⟩
        have hgood : ∀ o, 0 ≤ o → o < C 9 1 → ¬ flt (C 614 4) (C 615) (C 15 9 + C 9 2 + o) := fun o o0 o1 z => by
          obtain ⟨n', x', d1, d2, d3, d4, d5, d6⟩ := pk_ct hx hw hj t00 t01 hpl hb hk hf hm m10 m1r m20 m2k h12 hroom (o := o) o0 (by omega)
          have h8 := (d5 z).1
          have := hgm.2 (y - (C 15 9 + C 9 2 + o)) (by omega) (by omega)
          rw [show y - (y - (C 15 9 + C 9 2 + o)) = C 15 9 + C 9 2 + o by omega] at this
          exact this h8
        have hall := pk_dn hx hw hj t00 t01 hpl hb hk hf hm m10 m1r m20 m2k h12 hroom hdn hfull hgood
        have hself := hall n x (by omega) c2
        have hdn2 : dnQ S L h0 f (F 619) (F 620) y (L.length - 1) := fun t z ht h => by
          refine dnX_hd (hall t z (by omega) h) ?_
          rw [← c4]
          exact hself.2.2.1 t (by omega)
        obtain ⟨-, g2, g3, g4, g5, g6, g7, g8⟩ := hx
        have hj0 := hj.2.2.2.2.1
        have hv : vS (C 9 1) (F 619) (F 620) S := vS_eq (eqB_tr hj.2.2.2.2.2 (eqB_le e hj0)) g6 g7 (by omega) g3
        refine mp_ok g1 g2 g5 hv g4 (by omega) hdn2 ⟨?_, fun i i0 i1 => ?_, ?_⟩
        · have := l4 0 (by omega) (by omega)
          rw [Int.add_zero] at this
          rw [this]
          exact bod_60 (E := cm_ua E 624 f) g1 g2 hj.1.1 hj.1.2 hxs
        · rw [l4 i (by omega) (by omega)]
          exact bod_6 (E := cm_ua E 624 f) g1 g2 hj.1.1 hj.1.2 hxs i0 i1
        · rw [l4 13 (by omega) (by omega)]
          exact (bod_67 (E := cm_ua E 624 f) g1 g2 hj.1.1 hj.1.2 hxs).1
