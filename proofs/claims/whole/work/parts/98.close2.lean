/-! close: the call -/
variable {D E : Nat → Int → Int} {X : cm_X} {K B K' B' : Int → Int} {h pk t : Int} {S : Nat → Int → Int} {r : Int → Int}
/-- the disc of the class, behind a write of blocks that carry nothing -/
theorem dOk_out {D' : Nat → Int → Int} {n k : Int} (hd : dOk D K B h) (hk : k = 1 ∨ k = 2 ∨ k = 7 ∨ k = 8) (n0 : 0 ≤ n) (hn : h + n ≤ D 9 0) (e9 : D' 9 0 = D 9 0 ∧ D' 9 1 = D 9 1 ∧ D' 9 2 = D 9 2 ∧ D' 9 3 = D 9 3) (eK : ∀ b, K' b = if h ≤ b ∧ b < h + n then k else K b) (e1 : ∀ b, D' 11 b = if h ≤ b ∧ b < h + n then k else D 11 b) (e2 : ∀ b, D' 12 b = if h ≤ b ∧ b < h + n then 0 else D 12 b) (e13 : D' 13 = D 13) : dOk D' K' B (h + n) ∧ eqB h K B K' B := by
  obtain ⟨⟨z1, z2, z3, z4, z5⟩, d2, d3, d4, d5⟩ := hd
  obtain ⟨o1, o2, o3⟩ := dk_out (n := n) (k := k) hk d2 d3 eK e1 e2
  refine ⟨⟨⟨?_, ?_, ?_, ?_, fun b b0 b1 => ?_⟩, ?_, ?_, ?_, by omega⟩, o3⟩
  · rw [e9.1]; exact z1
  · rw [e9.2.1]; exact z2
  · rw [e9.2.2.1]; exact z3
  · rw [e9.2.2.2]; exact z4
  · rw [e2]
    by_cases hb : h ≤ b ∧ b < h + n
    · rw [if_pos hb]; omega
    · rw [if_neg hb]; exact z5 b b0 b1
  · rw [e13]; exact o1
  · rw [e9.2.1]; exact o2
  · rw [e9.1]; exact hn
def canC (D : Nat → Int → Int) : Prop := cAny D = 0 ∧ D 15 9 + D 9 3 ≤ D 9 0
theorem ev_canClose (h0 : 0 ≤ D 15 9) (h1 : D 15 9 ≤ 400) (h2 : 0 ≤ D 9 3 ∧ D 9 3 ≤ 8) : cm_x 139 0 [some (.inr (.inr 0))] [] (cm_hp D X) = some (.inl (some (.inl (tv (canC D)))), cm_hp D X) := by
  rw [sg_X8_canClose_0, ev_any, aft_v, sg_X8_canClose_7, cm_wr_id (by omega) (by omega)]
  by_cases ha : cAny D = 0
  · rw [if_pos ha]
    by_cases hb : D 9 0 < D 15 9 + D 9 3
    · rw [if_pos hb, tv_f (fun z => by have := z.2; omega)]
    · rw [if_neg hb, tv_t ⟨ha, by omega⟩]
  · rw [if_neg ha, tv_f (fun z => ha z.1)]
theorem ev_mCanClose (hr : rS (stt D 15) (E 617)) (hn : nS (stt D 15)) (e0 : E 614 0 = D 9 0) (e3 : E 614 3 = D 9 3) (h0 : 0 ≤ D 15 9) (h1 : D 15 9 ≤ 400) (h2 : 0 ≤ D 9 3 ∧ D 9 3 ≤ 8) : cm_x 254 0 [some (.inr (.inr 613))] [] (cm_hp E X) = some (.inl (some (.inl (tv (canC D)))), cm_hp E X) := by
  have ea : mAny (E 617) = cAny D := eq_any hr hn
  have e244 : E 617 244 = D 15 9 := hr.2.2.2.2.2.2.1
  rw [sg_X9_canClose_0, ev_mAny, aft_v, sg_X9_canClose_4, ea, e244, e0, e3, cm_wr_id (by omega) (by omega)]
  by_cases ha : cAny D = 0
  · rw [if_pos ha]
    by_cases hb : D 9 0 < D 15 9 + D 9 3
    · rw [if_pos hb, tv_f (fun z => by have := z.2; omega)]
    · rw [if_neg hb, tv_t ⟨ha, by omega⟩]
  · rw [if_neg ha, tv_f (fun z => ha z.1)]
theorem q_close (hR : R D t) (X : cm_X) {a : Int} : MM t D X (fun H => cm_x 138 0 [some (.inr (.inr 0)), some (.inl (a))] [] H) (fun H => cm_x 256 0 [some (.inr (.inr 613)), some (.inl (a))] [] H) := by
  have hc := hR.1
  have hd := hc.1
  have hr := hc.2.2.2.2.1
  have hw := hc.2.2.2.2.2
  have gd := d_g hd
  have hh0 := gd.2.2.1
  have hh4 := gd.2.2.2
  obtain ⟨hz1, hz2, hz3, hz4, -⟩ := hd.1
  have e0 : D 614 0 = D 9 0 := hc.2.1 0 (by omega) (by omega)
  have e3 : D 614 3 = D 9 3 := hc.2.1 3 (by omega) (by omega)
  by_cases hq : canC D
  · have hq2 := hq.2
    obtain ⟨D1, k1, hk, hr1, hw1, hd1⟩ := kp_run hR X
    have e9 := KP_o hR hk (x := 9) (by omega)
    have e15 := KP_o hR hk (x := 15) (by omega)
    have e11 := KP_o hR hk (x := 11) (by omega)
    have e12 := KP_o hR hk (x := 12) (by omega)
    obtain ⟨D2, c1, c2, c3, c4, c5⟩ := ev_closeS (D := D1) (X := X) (a := a) (by rw [e15]; exact hh0) (by rw [e9]; omega) (by rw [e15, e9]; exact hq2) (by rw [e9]; omega)
    rw [e15, e9] at c2 c3 c4
    rw [e11] at c2
    rw [e12] at c3
    have hfr : ∀ x : Nat, 308 ≤ x → D2 x = D x := fun x hx => by rw [c5 x (by omega) (by omega) (by omega), KP_o hR hk (by omega)]
    have s8 : D2 15 8 = cm_wr (D 15 8 + 1) := by
      by_cases ha : a = 0
      · exact (c4.2 ha).2.2.2.2.1
      · exact (c4.1 ha).2.2.2.2.2.1
    have s9 : D2 15 9 = D 15 9 + D 9 3 := by
      by_cases ha : a = 0
      · exact (c4.2 ha).2.2.2.2.2.1
      · exact (c4.1 ha).2.2.2.2.2.2.1
    refine ⟨cm_wr (D 15 8 + 1), D2, ?_, fun Y => ?_⟩
    · show cm_x 138 0 [some (.inr (.inr 0)), some (.inl (a))] [] (cm_hp D X) = _
      rw [sg_X8_close_0, ev_canClose hh0 hh4 (by omega), aft_v, sg_X8_close_4, tv_t hq, if_neg (by omega), k1, aft_n, sg_X8_close_23, c1, aft_n, sg_X8_close_28, s8]
    · have e29 : D2 613 29 = D 26 2 := by rw [hfr 613 (by omega)]; exact hR.2.1.2
      have hcn := hR.2.1.1.2.1
      obtain ⟨g, m1, m2⟩ := ev_mKeep (D := cm_up D2 613 0 0) (X := Y) (by show 0 ≤ D2 613 29; omega) (by show D2 613 29 ≤ 40; omega)
      have m1 : cm_x 238 0 [some (.inr (.inr 613)), none] [] (cm_hp (cm_up D2 613 0 0) Y) = some (.inl none, cm_hp (kE D2 g) Y) := m1
      have m2 : ∀ j, 0 ≤ j → j < 246 * (if D2 613 29 < 40 then D2 613 29 + 1 else 40) → g j = kpP (D2 626) (D2 617) (D2 613 29) j := m2
      have z617 : (kE D2 g) 617 = D 617 := hfr 617 (by omega)
      have z614 : (kE D2 g) 614 = D 614 := hfr 614 (by omega)
      have z619 : (kE D2 g) 619 = D 619 := hfr 619 (by omega)
      have z244 : D 617 244 = D 15 9 := hr.2.2.2.2.2.2.1
      have z243 : D 617 243 = D 15 8 := hr.2.2.2.2.2.1
      obtain ⟨E, n1, n2, n3, n4, n5⟩ := ev_mClose (E := kE D2 g) (X := Y) (a := a) (h := D 15 9) (by rw [z617]; exact z244) hh0 (by rw [z614, e3]; omega) (by rw [z614, e3]; omega)
      rw [z614, e3, z619] at n2
      rw [z614, e3, z617, z243] at n3
      have o2 : ∀ x : Nat, x ≠ 613 → x ≠ 617 → x ≠ 619 → x ≠ 626 → E x = D2 x := fun x a b c d => by
        rw [n5 x a b c]
        show (cm_up (u26 (cm_up D2 613 0 0) g) 613 29 _) x = _
        rw [up_row a]
        unfold u26
        rw [ua_row d, up_row a]
      have o626 : E 626 = g := n5 626 (by omega) (by omega) (by omega)
      have o613 : ∀ j, j ≠ 0 → j ≠ 27 → j ≠ 29 → E 613 j = D 613 j := fun j a b c => by
        rw [n4 j b]
        show (if j = 29 then _ else (if j = 0 then 0 else D2 613 j)) = D 613 j
        rw [if_neg c, if_neg a, hfr 613 (by omega)]
      have o29 : E 613 29 = (if D 26 2 < 40 then D 26 2 + 1 else 40) := by
        rw [n4 29 (by omega), ← e29]; rfl
      have y : ∀ x : Nat, x < 15 → x ≠ 11 → x ≠ 12 → E x = D x := fun x a b c => by rw [o2 x (by omega) (by omega) (by omega) (by omega), c5 x b c (by omega), KP_o hR hk (by omega)]
      have y' : ∀ x : Nat, 308 ≤ x → x ≠ 613 → x ≠ 617 → x ≠ 619 → x ≠ 626 → E x = D x := fun x a b c d e => by rw [o2 x b c d e, hfr x a]
      have y9 := y 9 (by omega) (by omega) (by omega)
      have hst : agS (stt E 15) (stt D2 15) := agS_of fun j hj => o2 _ (by omega) (by omega) (by omega) (by omega)
      have x9 : E 15 9 = D 15 9 + D 9 3 := by rw [o2 15 (by omega) (by omega) (by omega) (by omega)]; exact s9
      obtain ⟨v1, v2⟩ := dOk_out (D' := E) (K' := E 619) (n := D 9 3) (k := 7) hd (by omega) (by omega) hq2 (by rw [y9]; exact ⟨rfl, rfl, rfl, rfl⟩) n2 (fun b => by rw [o2 11 (by omega) (by omega) (by omega) (by omega), c2]) (fun b => by rw [o2 12 (by omega) (by omega) (by omega) (by omega), c3]) (y 13 (by omega) (by omega) (by omega))
      have hra : 28 ≤ adr (D 26 1) ∧ adr (D 26 1) + 7 ≤ 308 := by
        have := hR.2.1.1.1
        unfold adr; omega
      have x620 := y' 620 (by omega) (by omega) (by omega) (by omega) (by omega)
      have hS : rS (stt D2 15) (E 617) ∧ wS (D 9 1) (E 619) (D 620) (stt D2 15) := by
        have q : rS (stt D1 15) (D 617) := by rw [← KP_o hR hk (x := 617) (by omega)]; exact hr1
        have q9 : stt D1 15 0 9 = D 15 9 := by show D1 15 9 = _; rw [e15]
        refine cl_R (S := stt D1 15) (r := D 617) c4 n3 ?_ q (wS_eq v2 (rDk_ln hd.2.1) hd.2.2.1 (by rw [q9]; exact Int.le_refl _) hw1)
        rw [q9]; omega
      have hcE : Rc E := by
        unfold Rc
        rw [x9, y9, x620, y' 614 (by omega) (by omega) (by omega) (by omega) (by omega), y' 615 (by omega) (by omega) (by omega) (by omega) (by omega), y 10 (by omega) (by omega) (by omega), o613 21 (by omega) (by omega) (by omega)]
        exact ⟨v1, hc.2.1, hc.2.2.1, hc.2.2.2.1, rS_ag hst hS.2.1 hS.1, wS_ag hst hS.2⟩
      have h26 : E 26 = D1 26 := by rw [o2 26 (by omega) (by omega) (by omega) (by omega), c5 26 (by omega) (by omega) (by omega)]
      refine ⟨E, ?_, act_R hR hcE ?_ (fun q q0 q1 hq => ?_) (by rw [h26]; exact hk.2.1) (by rw [h26]; exact hk.2.2.1) (by rw [o29, h26]; exact hk.2.2.1.symm) (fun j j0 j1 => ?_) (by rw [x620]; exact v2) (by rw [x9]; omega) ⟨fun a ha => ?_, ?_, ?_⟩, y' _ (by omega) (by omega) (by omega) (by omega) (by omega)⟩
      · show cm_x 256 0 [some (.inr (.inr 613)), some (.inl a)] [] (cm_hp D2 Y) = _
        have zr : rS (stt D 15) ((cm_up D2 613 0 0) 617) := by
          show rS (stt D 15) (D2 617)
          rw [hfr 617 (by omega)]; exact hr
        have ze0 : (cm_up D2 613 0 0) 614 0 = D 9 0 := by show D2 614 0 = _; rw [hfr 614 (by omega)]; exact e0
        have ze3 : (cm_up D2 613 0 0) 614 3 = D 9 3 := by show D2 614 3 = _; rw [hfr 614 (by omega)]; exact e3
        have z8 : E 617 243 = cm_wr (D 15 8 + 1) := by rw [hS.1.2.2.2.2.2.1]; exact s8
        rw [sg_X9_close_0, ev_mCanClose (D := D) (E := cm_up D2 613 0 0) zr hw.1 ze0 ze3 hh0 hh4 (by omega), aft_v, sg_X9_close_9, tv_t hq, if_neg (by omega), m1, aft_n, sg_X9_close_21, n1, aft_n, sg_X9_close_26, z8]
      · refine agS_tr (agS_of fun j hj => ?_) hk.1
        show E (adr (D 26 1) + j) = D1 (adr (D 26 1) + j)
        rw [o2 _ (by omega) (by omega) (by omega) (by omega), c5 _ (by omega) (by omega) (by omega)]
      · refine agS_of fun j hj => ?_
        have hqa : adr q + 7 ≤ adr (D 26 1) ∨ adr (D 26 1) + 7 ≤ adr q := by
          have := hR.2.1.1.1
          unfold adr; omega
        have hqb : 28 ≤ adr q ∧ adr q + 7 ≤ 308 := by unfold adr; omega
        show E (adr q + j) = D (adr q + j)
        rw [o2 _ (by omega) (by omega) (by omega) (by omega), c5 _ (by omega) (by omega) (by omega), hk.2.2.2 _ (by omega) (by omega)]
      · rw [o626, m2 j j0 (by rw [e29]; exact j1), e29, hfr 626 (by omega), hfr 617 (by omega)]
      · unfold oRow at ha
        by_cases h14 : a < 15
        · exact y a h14 (by omega) (by omega)
        · exact y' a (by omega) (by omega) (by omega) (by omega) (by omega)
      · rw [y9]; exact ⟨rfl, rfl, rfl⟩
      · exact ⟨o613 9 (by omega) (by omega) (by omega), o613 18 (by omega) (by omega) (by omega), o613 33 (by omega) (by omega) (by omega), o613 34 (by omega) (by omega) (by omega)⟩
  · refine MM_f hR ?_ (fun Y => ?_)
    · show cm_x 138 0 [some (.inr (.inr 0)), some (.inl (a))] [] (cm_hp D X) = _
      rw [sg_X8_close_0, ev_canClose hh0 hh4 (by omega), aft_v, sg_X8_close_4, tv_f hq, if_pos rfl, sg_X8_refuse_0, aft_v, sg_X8_close_11]
    · show cm_x 256 0 [some (.inr (.inr 613)), some (.inl a)] [] (cm_hp (cm_up D 0 9 (cm_wr (D 0 9 + 1))) Y) = _
      rw [sg_X9_close_0, ev_mCanClose (D := D) (E := cm_up (cm_up D 0 9 (cm_wr (D 0 9 + 1))) 613 0 0) hr hw.1 e0 e3 hh0 hh4 (by omega), aft_v, sg_X9_close_9, tv_f hq, if_pos rfl, rf_mdl (md := fun _ => none), sg_X9_close_16]
