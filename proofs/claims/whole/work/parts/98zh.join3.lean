/-! a writing: both, all turns -/
variable {C C2 E F : Nat → Int → Int} {X Y : cm_X} {S : Nat → Int → Int} {L : List CT} {K0 B0 f a b : Int → Int} {h0 pk P : Int}
theorem wr_i32 (x : Int) : i32 (cm_wr x) := by
  unfold i32 cm_wr
  omega
theorem jn_lay {y3 : Int} (hx : fxd S L pk h0 K0 B0) (hLP : (L.length : Int) = pk * P) (pk0 : 2 ≤ pk) : ∀ (k : Nat) (C : Nat → Int → Int) (lc p tn : Int), wC S L C → C 9 1 = pk → 0 ≤ p → p ≤ P → 0 ≤ lc → lc ≤ 1000000 → 0 ≤ tn → 2 * tn ≤ C 15 9 → i32 (C 15 10) → C 9 0 ≤ C 15 9 + k → ∃ v C', cm_x 9 9 [some (.inr (.inr 22)), some (.inr (.inr 15)), some (.inr (.inr 9)), some (.inl (y3)), some (.inl (lc)), some (.inl (pk * p)), some (.inl (tn)), none, none, none, none] [] (cm_hp C X) = some (.inl (some (.inl (v))), cm_hp C' X) ∧ cFr C C' ∧ zOk C' ∧ C' 15 9 ≤ C' 9 0 ∧ i32 (C' 15 10) ∧ ∀ (q mo : Int) (E : Nat → Int → Int), jE S L h0 K0 B0 pk P lc p q mo C E → ∀ Y, ∃ w E', cm_x 209 21 [some (.inr (.inr 613)), some (.inl mo), some (.inl (C 9 2 + C 9 1)), some (.inl p), none, none] [] (cm_hp E Y) = some (.inl (some (.inl w)), cm_hp E' Y) ∧ wfr E E' ∧ jO S L h0 K0 B0 pk v w C' E' := by
  intro k
  induction k with
  | zero =>
    intro C lc p tn hw hpk p0 p1 l0 l1 tn0 tn2 hi hk
    have z1 := hw.2.2.1.1
    have h10 := hw.2.2.2.2.2
    by_cases hp : p = P
    · refine ⟨1, C, (jn_end (E := C) (Y := X) (h0 := h0) (K0 := K0) (B0 := B0) (q := 0) (mo := 0) hLP hw hp (by omega)).1, cFr_rf, hw.2.2.1, h10, hi, fun q mo E hj Y => ?_⟩
      obtain ⟨a1, a2⟩ := (jn_end (X := X) (Y := Y) (y3 := y3) (tn := tn) hLP hw hp (by omega)).2 hj
      exact ⟨0, E, a1, wfr_rf, a2 hpk⟩
    · have hr : ¬ rm C (C 15 9) := fun z => by
        unfold rm at z
        obtain ⟨-, z2, z3, z4, -⟩ := hw.2.2.1
        omega
      refine ⟨0, C, (jn_brk (E := C) (Y := X) (h0 := h0) (K0 := K0) (B0 := B0) (q := 0) (mo := 0) hLP pk0 hw (by omega) (by omega) hr).1, cFr_rf, hw.2.2.1, h10, hi, fun q mo E hj Y => ?_⟩
      obtain ⟨w, a1, a2⟩ := (jn_brk (X := X) (Y := Y) (y3 := y3) (tn := tn) hLP pk0 hw (by omega) (by omega) hr).2 hj
      exact ⟨w, E, a1, wfr_rf, a2 hpk⟩
  | succ k ih =>
    intro C lc p tn hw hpk p0 p1 l0 l1 tn0 tn2 hi hk
    have z1 := hw.2.2.1.1
    have h10 := hw.2.2.2.2.2
    by_cases hp : p = P
    · refine ⟨1, C, (jn_end (E := C) (Y := X) (h0 := h0) (K0 := K0) (B0 := B0) (q := 0) (mo := 0) hLP hw hp (by omega)).1, cFr_rf, hw.2.2.1, h10, hi, fun q mo E hj Y => ?_⟩
      obtain ⟨a1, a2⟩ := (jn_end (X := X) (Y := Y) (y3 := y3) (tn := tn) hLP hw hp (by omega)).2 hj
      exact ⟨0, E, a1, wfr_rf, a2 hpk⟩
    by_cases hr : rm C (C 15 9)
    case neg =>
      refine ⟨0, C, (jn_brk (E := C) (Y := X) (h0 := h0) (K0 := K0) (B0 := B0) (q := 0) (mo := 0) hLP pk0 hw (by omega) (by omega) hr).1, cFr_rf, hw.2.2.1, h10, hi, fun q mo E hj Y => ?_⟩
      obtain ⟨w, a1, a2⟩ := (jn_brk (X := X) (Y := Y) (y3 := y3) (tn := tn) hLP pk0 hw (by omega) (by omega) hr).2 hj
      exact ⟨w, E, a1, wfr_rf, a2 hpk⟩
    have hr' : C 15 9 + (C 9 2 + C 9 1) + C 9 3 ≤ C 9 0 := hr
    obtain ⟨-, z2, z3, z4, -⟩ := hw.2.2.1
    have h9 := hw.2.2.2.2.1
    have hpP : p < P := by omega
    have hpm : pk * p + pk ≤ pk * P := by
      have h1 : pk * (p + 1) ≤ pk * P := Int.mul_le_mul_of_nonneg_left (by omega) (by omega)
      rw [Int.mul_add, Int.mul_one] at h1
      exact h1
    have hp0 : 0 ≤ pk * p := Int.mul_nonneg (by omega) p0
    have hx' : fxd S L (C 9 1) h0 K0 B0 := by rw [hpk]; exact hx
    have hLP' : (L.length : Int) = C 9 1 * P := by rw [hpk]; exact hLP
    have hmul : C 9 1 * p = pk * p := by rw [hpk]
    have hlen := hx.2.2.2.2.2.2.2
    obtain ⟨a, b, C2, r1, r2, r3, r4, r5⟩ := ev_lay1 (X := X) (y3 := y3) (lc := lc) (t0 := pk * p) (tn := tn) hx' hw hp0 (by omega) l0 (by omega) hr
    have hq1 := r2.1
    have d15 : (r92 C (a, b)) 15 = C 15 := rfl
    rw [d15] at hq1
    have c2fr := r4
    have c29 : C2 9 = C 9 := r4.2.2 9 (by omega) (by omega) (by omega) (by omega) (by omega) (by omega)
    have hmn : 0 ≤ cm_mn (C 9 2 + C 9 1) lc ∧ cm_mn (C 9 2 + C 9 1) lc ≤ C 9 2 + C 9 1 := by
      unfold cm_mn
      split
      · omega
      · omega
    generalize hmm : cm_mn (C 9 2 + C 9 1) lc = m at r1 r2 hq1 hmn
    have c159 : C2 15 9 = C 15 9 + m := by rw [hq1, u1_eq]
    have c1510 : C2 15 10 = C 15 10 := by rw [hq1, u1_ne (by omega)]
    have c219 : C2 19 = a := by rw [r2.2.2.2.2.2 19 (by omega) (by omega) (by omega) (by omega)]; rfl
    have c221 : C2 21 = b := by rw [r2.2.2.2.2.2 21 (by omega) (by omega) (by omega) (by omega)]; rfl
    rw [← hmul] at r2
    by_cases hm : m < C 9 2 + C 9 1
    · -- it stops in the midst
      rw [if_pos hm] at r1
      refine ⟨0, C2, r1, r4, r3, by rw [c159, c29]; omega, by rw [c1510]; exact hi, fun q mo E hj Y => ?_⟩
      have hjv := hj
      obtain ⟨j1, j2, j3, j4, j5, j6, j7, j8, j9, j10⟩ := hj
      rw [← hpk] at hjv
      have wj : ∀ G, wJ S L h0 K0 B0 C2 G → ∀ w : Int, w ≠ 0 → jO S L h0 K0 B0 pk 0 w C2 G := fun G hG w hw0 => by
        have jv := hG.2.2.2.1.2
        rw [c29, hpk] at jv
        exact ⟨hG.2.2.1, ⟨hG.2.2.2.1.1, jv⟩, hG.2.2.2.2, Or.inr ⟨rfl, hw0⟩⟩
      by_cases ht : E 613 27 = mo
      · refine ⟨2, E, ?_, wfr_rf, wj E ?_ 2 (by omega)⟩
        · rw [sg_X9_writeAll_21, if_pos (by omega), sg_X9_writeAll_32, if_neg (by omega), ev_tornY ht, aft_v, sg_X9_writeAll_42, if_neg (by omega)]
        · have hm0 : m = 0 := by
            rw [← hmm] at hm ⊢
            unfold cm_mn at hm ⊢
            split at hm
            · rename_i hlt
              rw [if_pos hlt]
              rcases j6 with j6 | j6
              · omega
              · omega
            · omega
          rw [hm0] at r2 c159
          obtain ⟨q1, q2, q3, q4, q5, q6⟩ := r2
          have e15 : C2 15 9 = C 15 9 := by rw [c159, Int.add_zero]
          have d159 : (r92 C (a, b)) 15 9 = C 15 9 := rfl
          rw [d159] at q2 q3 q5
          unfold wJ
          rw [e15, c1510, c29, r4.2.2 614 (by omega) (by omega) (by omega) (by omega) (by omega) (by omega), r4.2.2 615 (by omega) (by omega) (by omega) (by omega) (by omega) (by omega)]
          refine ⟨j1.1, j1.2.1, j1.2.2.1, ⟨rDk_eq eqB_rf (fun y y0 y1 => ⟨?_, ?_, fun i i0 i1 => ?_⟩) j1.2.2.2.1.1, j1.2.2.2.1.2⟩, j1.2.2.2.2⟩
          · rw [q2, if_neg (by omega)]; rfl
          · rw [q3, if_neg (by omega)]; rfl
          · rw [q5 _ (by omega)]; rfl
      · have hpl := r5 (S 4) (S 6) q (E 624) j2 j3.1 (by omega)
        rw [← hmul] at hpl
        obtain ⟨m1, m2, s, G, f, k1, k2, k3, k4⟩ := jm_pkt (Y := Y) hx' hLP' hw p0 hpP hr l0 hmm hjv ht
        have hW := jw_pkt (u := C 15 10) (C3 := C2) hx' hw hjv (by omega) (by omega) hpl r2 k3 k2 k4 (by omega) (fun _ _ => rfl) rfl c1510
        have e245 : G 617 245 = C 15 10 := by rw [k3.1, u1_ne (by omega)]; exact j1.2.2.1.2
        have eG : cm_up G 617 245 (C 15 10) = G := by rw [← e245, up_to_ua, u1_id, ua_id]
        rw [eG] at hW
        refine ⟨2, G, ?_, pkt_fr k3 k4.2.1 k4.2.2.2.1, wj G hW 2 (by omega)⟩
        have e27 := k3.2.1
        rw [k1, sg_X9_writeAll_89, if_pos (by omega)]
    · -- a whole packet
      have hmc : m = C 9 2 + C 9 1 := by omega
      rw [if_neg hm] at r1
      have hlc : m ≤ lc := by
        rw [← hmm]
        unfold cm_mn
        split
        · omega
        · omega
      rw [cm_wr_id (x := lc - m) (by omega) (by omega), cm_wr_id (x := tn + 1) (by omega) (by omega)] at r1
      have spe : ∀ (q mo : Int) (E G : Nat → Int → Int) (f : Int → Int) (m1 m2 s : Int), jE S L h0 K0 B0 (C 9 1) P lc p q mo C E → pktW E G (C 9 1 * p) m1 m2 s f → (m = m1 + m2 ∧ 0 ≤ m1 ∧ m1 ≤ C 9 2 ∧ 0 ≤ m2 ∧ m2 ≤ C 9 1 ∧ (0 < m2 → m1 = C 9 2)) → (s = 0 ∨ s = 1) ∧ (s = 1 ↔ spr C (C 15 9)) := fun q mo E G f m1 m2 s hjv k3 k4 => by
        refine ⟨k3.2.2.2.2.1, k3.2.2.2.2.2.1.trans ?_⟩
        have e244 : E 617 244 = C 15 9 := hjv.1.2.2.1.1
        have em1 : m1 = C 9 2 := by omega
        have em2 : m2 = C 9 1 := by omega
        rw [e244, em1, em2]
        exact ⟨fun ⟨y, y0, y1, y2⟩ => ⟨y, y0, y1, (flt_X hjv.1 (by omega)).mp y2⟩, fun ⟨y, y0, y1, y2⟩ => ⟨y, y0, y1, (flt_X hjv.1 (by omega)).mpr y2⟩⟩
      by_cases hs : spr C (C 15 9)
      · rw [tv_t hs, if_neg (by omega)] at r1
        have g15 : (cm_up C2 15 10 (cm_wr (C 15 10 + 1))) 15 9 = C 15 9 + m := c159
        have g9 : (cm_up C2 15 10 (cm_wr (C 15 10 + 1))) 9 = C 9 := c29
        have fr3 : cFr C (cm_up C2 15 10 (cm_wr (C 15 10 + 1))) := cFr_tr r4 ⟨fun j _ h10 => by rw [up_same, u1_ne h10], Int.le_refl _, fun x _ _ _ h15 _ _ => up_row h15⟩
        have hz3 : zOk (cm_up C2 15 10 (cm_wr (C 15 10 + 1))) := r3
        have hw3 := wC_fr hw fr3 hz3 (by rw [g15, g9]; omega)
        obtain ⟨v, C', i1, i2, i3, i4, i5, i6⟩ := ih (cm_up C2 15 10 (cm_wr (C 15 10 + 1))) (lc - m) p (tn + 1) hw3 (by rw [g9]; exact hpk) p0 p1 (by omega) (by omega) (by omega) (by rw [g15]; omega) (wr_i32 _) (by rw [g15, g9]; omega)
        refine ⟨v, C', r1.trans i1, cFr_tr fr3 i2, i3, i4, i5, fun q mo E hj Y => ?_⟩
        have hjv := hj
        obtain ⟨j1, j2, j3, j4, j5, j6, j7, j8, j9, j10⟩ := hj
        rw [← hpk] at hjv
        have hpl := r5 (S 4) (S 6) q (E 624) j2 j3.1 (by omega)
        rw [← hmul] at hpl
        have ht : E 613 27 ≠ mo := by
          rcases j6 with j6 | j6
          · omega
          · omega
        obtain ⟨m1, m2, s, G, f, k1, k2, k3, k4⟩ := jm_pkt (Y := Y) hx' hLP' hw p0 hpP hr l0 hmm hjv ht
        have hsp := spe q mo E G f m1 m2 s hjv k3 k4
        have hs1 : s = 1 := hsp.2.mpr hs
        have hW := jw_pkt (u := cm_wr (C 15 10 + 1)) (C3 := cm_up C2 15 10 (cm_wr (C 15 10 + 1))) hx' hw hjv (by omega) (by omega) hpl r2 k3 k2 k4 (by omega) (fun x hx => up_row hx) rfl rfl
        have e245 : G 617 245 = C 15 10 := by rw [k3.1, u1_ne (by omega)]; exact j1.2.2.1.2
        have ef := pk_f hx' hw j1 (by omega) (by omega) hpl r2 k3 k2 k4.1 k4.2.1 k4.2.2.1 k4.2.2.2.1 k4.2.2.2.2.1 k4.2.2.2.2.2 (by omega) (by omega)
        have hdn := pk_dn0 hx' hw j1 (by omega) (by omega) hpl r2 k3 k2 k4.1 k4.2.1 k4.2.2.1 k4.2.2.2.1 k4.2.2.2.2.1 k4.2.2.2.2.2 (by omega) (by rw [hmul]; exact j4)
        have wf := pkt_fr k3 k4.2.1 k4.2.2.2.1
        have g624 : G 624 = f := k3.2.2.2.2.2.2.2.2.1
        have e27 : G 613 27 = E 613 27 + m := by rw [k3.2.1]; omega
        have e26 : G 613 26 = P := by rw [wf.1 26 (by omega)]; exact j7
        have jE3 : jE S L h0 K0 B0 pk P (lc - m) p (pk * p + pk) mo (cm_up C2 15 10 (cm_wr (C 15 10 + 1))) (cm_up G 617 245 (cm_wr (C 15 10 + 1))) := by
          refine ⟨hW, ?_, ⟨by omega, by omega, by omega⟩, ?_, fun z => absurd z hp, ?_, e26, ?_, ?_, j10⟩
          · show plQ (S 1) (S 4) (S 6) L (pk * p + pk) (G 624) (C2 19) (C2 21)
            rw [g624, c219, c221, ef, ← hpk]; exact hpl
          · show dnQ S L h0 (G 624) (G 619) (G 620) (C2 15 9) (pk * p)
            rw [g624, c159, ← hmul]; exact hdn
          · show lc - m = mo - G 613 27 ∨ (400 ≤ lc - m + C2 15 9 ∧ 400 ≤ mo - G 613 27 + C2 15 9)
            rw [e27, c159]
            omega
          · show 0 ≤ G 613 27
            omega
          · show G 613 27 ≤ mo
            rcases j6 with j6 | j6
            · omega
            · omega
        obtain ⟨w, E', n1, n2, n3⟩ := i6 _ mo _ jE3 Y
        rw [g9] at n1
        refine ⟨w, E', ?_, wfr_tr wf (wfr_tr ?_ n2), n3⟩
        · have x26 : (cm_up G 617 245 (cm_wr (C 15 10 + 1))) 613 26 = P := e26
          rw [k1, sg_X9_writeAll_89, if_neg (by omega), if_neg (by omega), e245, hs1, ← n1, sg_X9_writeAll_21, x26, if_pos hpP]
        · exact ⟨fun _ _ => rfl, fun j _ h2 => by rw [up_same, u1_ne h2], fun _ _ => rfl, fun _ _ => rfl, Int.le_refl _, rfl, fun x _ h2 _ _ _ => up_row h2⟩
      · rw [tv_f hs, if_pos rfl] at r1
        have hw3 := wC_fr hw r4 r3 (by rw [c159, c29]; omega)
        have hmul1 : pk * (p + 1) = pk * p + pk := by rw [Int.mul_add, Int.mul_one]
        obtain ⟨v, C', i1, i2, i3, i4, i5, i6⟩ := ih C2 (lc - m) (p + 1) (tn + 1) hw3 (by rw [c29]; exact hpk) (by omega) (by omega) (by omega) (by omega) (by omega) (by rw [c159]; omega) (by rw [c1510]; exact hi) (by rw [c159, c29]; omega)
        rw [hpk] at r1
        rw [hmul1] at i1
        refine ⟨v, C', r1.trans i1, cFr_tr r4 i2, i3, i4, i5, fun q mo E hj Y => ?_⟩
        have hjv := hj
        obtain ⟨j1, j2, j3, j4, j5, j6, j7, j8, j9, j10⟩ := hj
        rw [← hpk] at hjv
        have hpl := r5 (S 4) (S 6) q (E 624) j2 j3.1 (by omega)
        rw [← hmul] at hpl
        have ht : E 613 27 ≠ mo := by
          rcases j6 with j6 | j6
          · omega
          · omega
        obtain ⟨m1, m2, s, G, f, k1, k2, k3, k4⟩ := jm_pkt (Y := Y) hx' hLP' hw p0 hpP hr l0 hmm hjv ht
        have hsp := spe q mo E G f m1 m2 s hjv k3 k4
        have hs0 : s = 0 := by
          rcases hsp.1 with z | z
          · exact z
          · exact absurd (hsp.2.mp z) hs
        have hW := jw_pkt (u := C 15 10) (C3 := C2) hx' hw hjv (by omega) (by omega) hpl r2 k3 k2 k4 (by omega) (fun _ _ => rfl) rfl c1510
        have e245 : G 617 245 = C 15 10 := by rw [k3.1, u1_ne (by omega)]; exact j1.2.2.1.2
        have ef := pk_f hx' hw j1 (by omega) (by omega) hpl r2 k3 k2 k4.1 k4.2.1 k4.2.2.1 k4.2.2.2.1 k4.2.2.2.2.1 k4.2.2.2.2.2 (by omega) (by omega)
        have hgood : ∀ o, 0 ≤ o → o < C 9 1 → ¬ flt (C 614 4) (C 615) (C 15 9 + C 9 2 + o) := fun o o0 o1 z => hs ⟨C 15 9 + C 9 2 + o, by omega, by omega, z⟩
        have hdn := pk_dn hx' hw j1 (by omega) (by omega) hpl r2 k3 k2 k4.1 k4.2.1 k4.2.2.1 k4.2.2.2.1 k4.2.2.2.2.1 k4.2.2.2.2.2 (by omega) (by rw [hmul]; exact j4) (by omega) hgood
        have wf := pkt_fr k3 k4.2.1 k4.2.2.2.1
        have g624 : G 624 = f := k3.2.2.2.2.2.2.2.2.1
        have e27 : G 613 27 = E 613 27 + m := by rw [k3.2.1]; omega
        have e26 : G 613 26 = P := by rw [wf.1 26 (by omega)]; exact j7
        have hlast : p + 1 = P → G 624 ((L.length : Int) - 1) = C 15 9 + m - 1 ∧ goodM (G 619) pk (C 15 9 + m - 1) := fun hpe => by
          have hlt : pk * p + pk = (L.length : Int) := by rw [hLP, ← hpe, hmul1]
          have hfl : f ((L.length : Int) - 1) = C 15 9 + m - 1 := by
            rw [ef]
            unfold upf
            rw [hmul, hpk, if_pos (by omega)]
            omega
          refine ⟨by rw [g624]; exact hfl, ?_, fun kk kk0 kk1 => ?_⟩
          · obtain ⟨n, x, e1, e2⟩ := ct_at (L := L) (t := (L.length : Int) - 1) (by omega) (by omega)
            have en : n = L.length - 1 := by omega
            have hd := (hdn n x (by omega) e2).2.1
            rw [e1, hfl] at hd
            rw [hd]
            rw [en, hx.1.2.2.2.2.2.2] at e2
            rw [← Option.some.inj e2]
          · obtain ⟨n, x, d1, d2, d3, d4, d5, d6⟩ := pk_ct hx' hw j1 (by omega) (by omega) hpl r2 k3 k2 k4.1 k4.2.1 k4.2.2.1 k4.2.2.2.1 k4.2.2.2.2.1 k4.2.2.2.2.2 (by omega) (o := pk - 1 - kk) (by omega) (by omega)
            have h8 := (d6 (hgood _ (by omega) (by omega))).1
            have hkd := xk d3
            rw [show C 15 9 + m - 1 - kk = C 15 9 + C 9 2 + (pk - 1 - kk) by omega, h8]
            omega
        have eG : cm_up G 617 245 (C 15 10) = G := by rw [← e245, up_to_ua, u1_id, ua_id]
        rw [eG] at hW
        have jE3 : jE S L h0 K0 B0 pk P (lc - m) (p + 1) (pk * p + pk) mo C2 G := by
          refine ⟨hW, ?_, ⟨by omega, by omega, by omega⟩, ?_, ?_, ?_, e26, ?_, ?_, j10⟩
          · rw [g624, c219, c221, ef, ← hpk]; exact hpl
          · rw [g624, c159, hmul1, ← hmul, ← hpk]; exact hdn
          · rw [c159]; exact hlast
          · rw [e27, c159]
            omega
          · omega
          · rcases j6 with j6 | j6
            · omega
            · omega
        obtain ⟨w, E', n1, n2, n3⟩ := i6 _ mo _ jE3 Y
        rw [c29] at n1
        refine ⟨w, E', ?_, wfr_tr wf n2, n3⟩
        have hw0 : cm_wr (C 15 10 + 0) = C 15 10 := by
          unfold i32 at hi
          rw [Int.add_zero, cm_wr_id hi.1 hi.2]
        have hPb : P ≤ 125 := by
          have h1 : 1 * P ≤ pk * P := Int.mul_le_mul_of_nonneg_right (by omega) (by omega)
          omega
        rw [k1, sg_X9_writeAll_89, if_neg (by omega), if_pos hs0, e245, hw0, eG, sg_X9_writeAll_32, if_pos hs0, cm_wr_id (x := p + 1) (by omega) (by omega)]
        exact n1
