/-! guess: the reference, and the call -/
variable {D E : Nat → Int → Int} {X : cm_X} {K B K' B' A : Int → Int} {h pk c t : Int} {S : Nat → Int → Int} {r : Int → Int}
theorem ev_gsM (hz : zOk D) (hf : fOk (D 10) (D 614 4) (D 615)) (hr : rS (stt D 15) (E 617)) (hn : nS (stt D 15)) (e9 : ∀ j, 0 ≤ j → j < 4 → E 614 j = D 9 j) (e4 : E 614 4 = D 614 4) (e15 : E 615 = D 615) (h21 : E 613 21 = -1) (h0 : 0 ≤ D 15 9) (h1 : D 15 9 ≤ 400) {x w : Int} : ∃ n f F, cm_x 268 28 [some (.inr (.inr 613)), some (.inl (x)), some (.inl (w)), some (.inl (0)), some (.inl ((-1))), some (.inl (0)), none] [] (cm_hp E X) = some (.inl (some (.inl (if w = 0 then n else f))), cm_hp F X) ∧ gsQ D x (D 9 0) n f ∧ eFr D E F := by
  have z1 := hz.1
  have q0 := e9 0 (by omega) (by omega)
  obtain ⟨⟨n, f, F⟩, L, Q, W⟩ := lp_inv (X := fun k (q : Int × Int × (Nat → Int → Int)) => cm_x 268 28 [some (.inr (.inr 613)), some (.inl (x)), some (.inl (w)), some (.inl (q.1)), some (.inl (q.2.1)), some (.inl (k)), none] [] (cm_hp (q.2.2) X)) (P := fun k (q : Int × Int × (Nat → Int → Int)) => gsQ D x k q.1 q.2.1 ∧ eFr D E q.2.2) (lo := 0) (hi := D 9 0) (fun k q k0 k1 hQ => by
    obtain ⟨n, f, F⟩ := q
    obtain ⟨hQ, hW⟩ := hQ
    have hQ : gsQ D x k n f := hQ
    have hW : eFr D E F := hW
    have nb := hQ.2.1
    have nf := hQ.2.2.1
    have w2 : cm_wr (k + 1) = k + 1 := cm_wr_id (by omega) (by omega)
    have w3 : cm_wr (n + 1) = n + 1 := cm_wr_id (by omega) (by omega)
    have x14 : F 614 = E 614 := hW.2.2.2.2 614 (by omega) (by omega) (by omega) (by omega) (by omega) (by omega)
    have x15 : F 615 = E 615 := hW.2.2.2.2 615 (by omega) (by omega) (by omega) (by omega) (by omega) (by omega)
    have x21 : F 613 21 = -1 := by rw [hW.2.1 21 (by omega) (by omega) (by omega), h21]
    have hfx : fltX F k ↔ flt (D 614 4) (D 615) k := by
      unfold fltX
      rw [x21, x14, x15, e4, e15]
      exact ⟨fun z => z.elim (fun y => by omega) id, Or.inr⟩
    have head : cm_x 268 28 [some (.inr (.inr 613)), some (.inl (x)), some (.inl (w)), some (.inl (n)), some (.inl (f)), some (.inl (k)), none] [] (cm_hp F X) = cm_x 268 45 [some (.inr (.inr 613)), some (.inl (x)), some (.inl (w)), some (.inl (n)), some (.inl (f)), some (.inl (k)), none] [.inl (tv (flt (D 614 4) (D 615) k))] (cm_hp F X) := by
      rw [sg_X9_guess_28, x14, q0, if_pos k1, ev_mFlt (E := F) (by rw [x14, e4]; exact hf.2.2.1) (by rw [x14, e4]; exact hf.2.2.2), aft_v, tv_c hfx]
    by_cases hfl : flt (D 614 4) (D 615) k
    · refine ⟨(n, f, F), ?_, gsQ_n hQ k0 (fun z => z.1 hfl), hW⟩
      show cm_x 268 28 [some (.inr (.inr 613)), some (.inl (x)), some (.inl (w)), some (.inl (n)), some (.inl (f)), some (.inl (k)), none] [] (cm_hp F X) = cm_x 268 28 [some (.inr (.inr 613)), some (.inl (x)), some (.inl (w)), some (.inl (n)), some (.inl (f)), some (.inl (k + 1)), none] [] (cm_hp F X)
      rw [head, sg_X9_guess_45, tv_t hfl, if_neg (by omega), w2]
    · obtain ⟨G, m1, m2⟩ := ev_mEnds (D := D) (E := cm_up F 613 21 k) (X := X) hz hf (by show rS (stt D 15) (F 617); rw [hW.1]; exact hr) hn (fun j a b => by show F 614 j = _; rw [x14]; exact e9 j a b) (by show F 614 4 = _; rw [x14]; exact e4) (by show F 615 = _; rw [x15]; exact e15) h0 h1
      have qk : (cm_up F 613 21 k) 613 21 = k := rfl
      rw [qk] at m1
      have hW' : eFr D E (cm_up G 613 21 (-1)) := eFr_tr hW (eFr_try x21 m2)
      have mid : cm_x 268 28 [some (.inr (.inr 613)), some (.inl (x)), some (.inl (w)), some (.inl (n)), some (.inl (f)), some (.inl (k)), none] [] (cm_hp F X) = cm_x 268 61 [some (.inr (.inr 613)), some (.inl (x)), some (.inl (w)), some (.inl (n)), some (.inl (f)), some (.inl (k)), none] [.inl (endV D k)] (cm_hp G X) := by
        rw [head, sg_X9_guess_45, tv_f hfl, if_pos rfl, m1, aft_v]
      by_cases hx : endV D k = x
      · refine ⟨(n + 1, (if n = 0 then k else f), cm_up G 613 21 (-1)), ?_, gsQ_y hQ k0 ⟨hfl, hx⟩, hW'⟩
        show cm_x 268 28 [some (.inr (.inr 613)), some (.inl (x)), some (.inl (w)), some (.inl (n)), some (.inl (f)), some (.inl (k)), none] [] (cm_hp F X) = cm_x 268 28 [some (.inr (.inr 613)), some (.inl (x)), some (.inl (w)), some (.inl (n + 1)), some (.inl ((if n = 0 then k else f))), some (.inl (k + 1)), none] [] (cm_hp (cm_up G 613 21 (-1)) X)
        rw [mid, sg_X9_guess_61, if_pos hx, w2, w3]
        by_cases hn0 : n = 0
        · rw [if_pos (nf.mp hn0), if_pos hn0]
        · rw [if_neg (fun z => hn0 (nf.mpr z)), if_neg hn0]
      · refine ⟨(n, f, cm_up G 613 21 (-1)), ?_, gsQ_n hQ k0 (fun z => hx z.2), hW'⟩
        show cm_x 268 28 [some (.inr (.inr 613)), some (.inl (x)), some (.inl (w)), some (.inl (n)), some (.inl (f)), some (.inl (k)), none] [] (cm_hp F X) = cm_x 268 28 [some (.inr (.inr 613)), some (.inl (x)), some (.inl (w)), some (.inl (n)), some (.inl (f)), some (.inl (k + 1)), none] [] (cm_hp (cm_up G 613 21 (-1)) X)
        rw [mid, sg_X9_guess_61, if_neg hx, w2]) (0, -1, E) (by omega) ⟨gsQ_0, eFr_rf⟩
  have L : cm_x 268 28 [some (.inr (.inr 613)), some (.inl (x)), some (.inl (w)), some (.inl (0)), some (.inl ((-1))), some (.inl (0)), none] [] (cm_hp E X) = cm_x 268 28 [some (.inr (.inr 613)), some (.inl (x)), some (.inl (w)), some (.inl (n)), some (.inl (f)), some (.inl (D 9 0)), none] [] (cm_hp F X) := L
  have W : eFr D E F := W
  have x14 : F 614 = E 614 := W.2.2.2.2 614 (by omega) (by omega) (by omega) (by omega) (by omega) (by omega)
  refine ⟨n, f, F, ?_, Q, W⟩
  rw [L, sg_X9_guess_28, x14, q0, if_neg (by omega)]
  by_cases hw : w = 0
  · rw [if_pos hw, if_pos hw]
  · rw [if_neg hw, if_neg hw]
theorem q_guess (hR : R D t) (X : cm_X) (x w : Int) : QQ t D X (fun H => cm_x 152 0 [some (.inr (.inr 0)), some (.inl (x)), some (.inl (w)), none, none, none, none, none] [] H) (fun H => cm_x 268 0 [some (.inr (.inr 613)), some (.inl (x)), some (.inl (w)), none, none, none, none] [] H) 0 := by
  have hc := hR.1
  have hd := hc.1
  have hz := hd.1
  have hf := hc.2.2.1
  have hr := hc.2.2.2.2.1
  have hn := hc.2.2.2.2.2.1
  have gd := d_g hd
  have hh0 := gd.2.2.1
  have hh4 := gd.2.2.2
  have h21 : D 613 21 = -1 := hc.2.2.2.1
  have hlk : lOk D := fun n a b => (hn.2.1 n a b).2.1
  by_cases hw : 0 ≤ w ∧ w ≤ 1
  · have pb : pkB (D 9 1) (cCnt D) ≤ 1000 := by
      have cb := cCnt_b hn
      obtain ⟨-, -, b, -⟩ := pkB_eq (p := D 9 1) (c := cCnt D) hz.2.1.1 hz.2.1.2 (by omega) (by omega)
      omega
    obtain ⟨n, f, u, L, Q⟩ := ev_gsC (D := D) (X := X) hz hf hh0 hh4 (x := x) (w := w) (P := pkB (D 9 1) (cCnt D)) (fun hb => by rw [((cCnt_0 hn).2 hb.1).1]) pb (D 9 4)
    have same : cm_up D 9 4 (D 9 4) = D := by rw [up_to_ua, u1_id, ua_id]
    rw [same] at L
    refine ⟨some (if w = 0 then n else f), cm_up D 9 4 u, ?_, fun Y => ?_⟩
    · show cm_x 152 0 [some (.inr (.inr 0)), some (.inl (x)), some (.inl (w)), none, none, none, none, none] [] (cm_hp D X) = _
      rw [sg_X8_guess_0, ev_cw, if_pos hw, aft_n, sg_X8_guess_5, ev_canBegin hz hn hh0 hh4, aft_v, sg_X8_guess_9, ev_pkNow hz hlk, aft_v, sg_X8_guess_14, L]
      rfl
    · obtain ⟨n', f', F, L', Q', W⟩ := ev_gsM (D := D) (E := cm_up (cm_up D 9 4 u) 613 0 0) (X := Y) hz hf hr hn hc.2.1 rfl rfl h21 hh0 hh4 (x := x) (w := w)
      obtain ⟨en, ef⟩ := gsQ_u Q' Q
      rw [en, ef] at L'
      refine ⟨F, ?_, ?_, R_look hR W⟩
      · show cm_x 268 0 [some (.inr (.inr 613)), some (.inl x), some (.inl w), none, none, none, none] [] (cm_hp (cm_up D 9 4 u) Y) = _
        rw [sg_X9_guess_0, ev_isIn, if_pos hw, aft_v, sg_X9_guess_11, if_neg (by omega), L']
        rfl
      · rw [W.2.1 0 (by omega) (by omega) (by omega)]; rfl
  · refine QQ_n hR (fun X => ?_) (fun X => ?_)
    · show cm_x 152 0 [some (.inr (.inr 0)), some (.inl (x)), some (.inl (w)), none, none, none, none, none] [] (cm_hp D X) = _
      rw [sg_X8_guess_0, ev_cw, if_neg hw]
      rfl
    · show cm_x 268 0 [some (.inr (.inr 613)), some (.inl (x)), some (.inl (w)), none, none, none, none] [] (cm_hp D X) = _
      rw [sg_X9_guess_0, ev_isIn, if_neg hw, aft_v, sg_X9_guess_11, if_pos rfl, sg_X9_fail_0, aft_v, sg_X9_guess_19]
