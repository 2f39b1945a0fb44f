/-! restore: both -/
variable {D E : Nat → Int → Int} {X : cm_X} {K B K' B' : Int → Int} {h pk t : Int} {r : Int → Int}
theorem iR_hi (h : ∀ x : Nat, (308 ≤ x ∧ x < 604) ∨ (628 ≤ x ∧ x < 633) ∨ x = 9 → E x = D x) (h33 : E 613 33 = D 613 33) (h34 : E 613 34 = D 613 34) (hr : iR D) : iR E := by
  obtain ⟨r1, r2, r3⟩ := hr
  have ha : agS (stt E 315) (stt D 315) := agS_of fun j hj => h _ (by omega)
  unfold iR
  rw [h 308 (by omega), h 311 (by omega), h 312 (by omega), h 313 (by omega), h 630 (by omega), h 631 (by omega), h 315 (by omega), h 628 (by omega), h 629 (by omega), h 632 (by omega), h 322 (by omega), h 9 (by omega), h33, h34]
  refine ⟨r1, r2, fun hp => ?_⟩
  obtain ⟨q1, q2, q3, q4, q5, q6, q7⟩ := r3 hp
  exact ⟨q1, q2, q3, rS_ag ha q5.1 q4, wS_ag ha q5, aG_eq eqB_rf (rDk_ln q1) q2 (fun q q0 q1 => agS_of fun j hj => h _ (by unfold bdr; omega)) (fun _ _ _ => rfl) (Int.le_refl _) q6, q7⟩
/-- the reference goes back to its image -/
theorem ev_mRestore (h1 : D 613 33 ≠ 0) : ∃ E : Nat → Int → Int, cm_x 275 0 [some (.inr (.inr 613))] [] (cm_hp D X) = some (.inl (some (.inl (1))), cm_hp E X) ∧ (∀ x : Nat, x ≠ 613 → x ≠ 616 → x ≠ 617 → x ≠ 619 → x ≠ 620 → x ≠ 626 → E x = D x) ∧ E 613 29 = D 613 34 ∧ (∀ j, j ≠ 0 → j ≠ 29 → E 613 j = D 613 j) ∧ (∀ j, 0 ≤ j → j < 246 → E 617 j = D 628 j) ∧ (∀ j, 0 ≤ j → j < 9840 → E 626 j = D 629 j) ∧ (∀ j, 0 ≤ j → j < 400 → E 619 j = D 630 j) ∧ (∀ j, 0 ≤ j → j < 6000 → E 620 j = D 631 j) ∧ (∀ j, 0 ≤ j → j < 2 → E 616 j = D 632 j) := by
  obtain ⟨f1, a1, p1⟩ := ev_ct_ni (D := cm_up (cm_up D 613 0 0) 613 29 (D 613 34)) (X := X)
  generalize hE0 : cm_up (cm_up D 613 0 0) 613 29 (D 613 34) = E0 at a1 p1
  have o0 : ∀ x : Nat, x ≠ 613 → E0 x = D x := fun x hx => by rw [← hE0, up_row hx, up_row hx]
  have e613 : E0 613 = cm_u1 (cm_u1 (D 613) 0 0) 29 (D 613 34) := by rw [← hE0]; rfl
  obtain ⟨f2, a2, p2⟩ := ev_ct_pr (D := cm_ua E0 617 f1) (X := X)
  obtain ⟨f3, a3, p3⟩ := ev_ct_kr (D := cm_ua (cm_ua E0 617 f1) 626 f2) (X := X)
  obtain ⟨f4, a4, p4⟩ := ev_ct_br (D := cm_ua (cm_ua (cm_ua E0 617 f1) 626 f2) 619 f3) (X := X)
  obtain ⟨f5, a5, p5⟩ := ev_ct_sr (D := cm_ua (cm_ua (cm_ua (cm_ua E0 617 f1) 626 f2) 619 f3) 620 f4) (X := X)
  refine ⟨cm_ua (cm_ua (cm_ua (cm_ua (cm_ua E0 617 f1) 626 f2) 619 f3) 620 f4) 616 f5, ?_, fun x a b c d e f => ?_, ?_, fun j a b => ?_, fun j a b => ?_, fun j a b => ?_, fun j a b => ?_, fun j a b => ?_, fun j a b => ?_⟩
  · rw [sg_X9_restore_0, if_neg h1, hE0, a1, aft_n, sg_X9_restore_33, a2, aft_n, sg_X9_restore_44, a3, aft_n, sg_X9_restore_55, a4, aft_n, sg_X9_restore_66, a5, aft_n, sg_X9_restore_77]
  · rw [ua_row b, ua_row e, ua_row d, ua_row f, ua_row c, o0 x a]
  · show E0 613 29 = _
    rw [e613]; rfl
  · show E0 613 j = _
    rw [e613, u1_ne b, u1_ne a]
  · show f1 j = _
    rw [p1 j a b, o0 _ (by omega)]
  · show f2 j = _
    rw [p2 j a b, ← o0 629 (by omega)]; rfl
  · show f3 j = _
    rw [p3 j a b, ← o0 630 (by omega)]; rfl
  · show f4 j = _
    rw [p4 j a b, ← o0 631 (by omega)]; rfl
  · show f5 j = _
    rw [p5 j a b, ← o0 632 (by omega)]; rfl
theorem q_restore (hR : R D t) (X : cm_X) : MM t D X (fun H => cm_x 159 0 [some (.inr (.inr 0))] [] H) (fun H => cm_x 275 0 [some (.inr (.inr 613))] [] H) := by
  have hc := hR.1
  have hd := hc.1
  have hi := hR.2.2.1
  by_cases h0 : D 308 0 = 0
  · refine MM_s (v := 0) hR (fun X => ?_) (fun X => ?_)
    · show cm_x 159 0 [some (.inr (.inr 0))] [] (cm_hp D X) = _
      rw [sg_X8_restore_0, if_pos h0]
    · show cm_x 275 0 [some (.inr (.inr 613))] [] (cm_hp D X) = _
      rw [sg_X9_restore_0, if_pos (by rw [hi.2.1]; exact h0)]
  obtain ⟨i1, i2, i3, i4, i5, i6, i7, i8, i9⟩ := hi.2.2 (by have := hi.1; omega)
  have hz := hd.1
  have h90 : 0 ≤ D 315 9 := i5.2.1.1
  have h94 : D 315 9 ≤ 400 := by have := hz.1; omega
  have w15 : cm_wr (D 315 9 * 15) = D 315 9 * 15 := cm_wr_id (by omega) (by omega)
  have c1 : cm_x 17 0 [some (.inr (.inr 9)), some (.inr (.inr 309)), some (.inl (D 315 9))] [] (cm_hp D X) = some (.inl none, cm_hp (cm_ua (cm_ua (cm_ua D 11 (cm_cp (D 311) (D 11) 0 0 (D 315 9))) 12 (cm_cp (D 312) (D 12) 0 0 (D 315 9))) 13 (cm_cp (D 313) (D 13) 0 0 (D 315 9 * 15))) X) := by
    rw [sg_X2_takeBlocks_r_0, w15, ck_t (by omega), ck_t (by omega), ck_t (by omega)]
  generalize hD1 : cm_ua (cm_ua (cm_ua D 11 (cm_cp (D 311) (D 11) 0 0 (D 315 9))) 12 (cm_cp (D 312) (D 12) 0 0 (D 315 9))) 13 (cm_cp (D 313) (D 13) 0 0 (D 315 9 * 15)) = D1 at c1
  have o1 : ∀ x : Nat, x ≠ 11 → x ≠ 12 → x ≠ 13 → D1 x = D x := fun x a b c => by rw [← hD1, ua_row c, ua_row b, ua_row a]
  have e11 : D1 11 = cm_cp (D 311) (D 11) 0 0 (D 315 9) := by rw [← hD1]; rfl
  have e12 : D1 12 = cm_cp (D 312) (D 12) 0 0 (D 315 9) := by rw [← hD1]; rfl
  have e13 : D1 13 = cm_cp (D 313) (D 13) 0 0 (D 315 9 * 15) := by rw [← hD1]; rfl
  have hag1 : agS (stt D1 315) (stt D 315) := agS_of fun j hj => o1 _ (by omega) (by omega) (by omega)
  obtain ⟨D2, c2, s2, o2⟩ := ev_takeFrom (D := D1) (X := X) isT_15 isT_315 (by omega) (bS_n (nS_ag hag1 i5.1))
  have hring : ∀ q, 0 ≤ q → q < 40 → agS (stt D2 (bdr q)) (stt D (bdr q)) := fun q q0 q1 => agS_of fun j hj => by
    show D2 (bdr q + j) = D (bdr q + j)
    rw [o2 _ (by unfold bdr; omega), o1 _ (by unfold bdr; omega) (by unfold bdr; omega) (by unfold bdr; omega)]
  have hbs : ∀ q, 0 ≤ q → q < 40 → bS (stt D2 (bdr q)) := fun q q0 q1 => bS_ag (hring q q0 q1) (i6.2.2.2 q q0 q1)
  obtain ⟨D3, c3, s3, n3, m3, o3⟩ := ev_atr (D := D2) (X := X) hbs
  have d3 : ∀ x : Nat, x < 11 ∨ x = 14 ∨ 308 ≤ x → D3 x = D x := fun x hx => by rw [o3 x (by omega) (by omega), o2 x (by omega), o1 x (by omega) (by omega) (by omega)]
  have d11 : D3 11 = cm_cp (D 311) (D 11) 0 0 (D 315 9) := by rw [o3 _ (by omega) (by omega), o2 _ (by omega), e11]
  have d12 : D3 12 = cm_cp (D 312) (D 12) 0 0 (D 315 9) := by rw [o3 _ (by omega) (by omega), o2 _ (by omega), e12]
  have d13 : D3 13 = cm_cp (D 313) (D 13) 0 0 (D 315 9 * 15) := by rw [o3 _ (by omega) (by omega), o2 _ (by omega), e13]
  have d15 : agS (stt D3 15) (stt D 315) := agS_tr (agS_of fun j hj => o3 _ (by omega) (by omega)) (agS_tr s2 hag1)
  have dring : ∀ q, 0 ≤ q → q < 40 → agS (stt D3 (adr q)) (stt D (bdr q)) := fun q q0 q1 => agS_tr (s3 q q0 q1) (hring q q0 q1)
  have d322 : D2 322 = D 322 := by rw [o2 322 (by omega), o1 322 (by omega) (by omega) (by omega)]
  rw [d322] at n3 m3
  generalize hD4 : cm_up (cm_up D3 0 8 (D3 308 4)) 0 9 (D3 308 5) = D4
  have o4 : ∀ x : Nat, x ≠ 0 → D4 x = D3 x := fun x hx => by rw [← hD4, up_row hx, up_row hx]
  have e4 : D4 0 = cm_u1 (cm_u1 (D3 0) 8 (D3 308 4)) 9 (D3 308 5) := by rw [← hD4]; rfl
  refine ⟨1, D4, ?_, fun Y => ?_⟩
  · show cm_x 159 0 [some (.inr (.inr 0))] [] (cm_hp D X) = _
    rw [sg_X8_restore_0, if_neg h0, c1, aft_n, sg_X8_restore_36, c2, aft_n, sg_X8_restore_50, c3, aft_n, sg_X8_restore_64, hD4]
  · have d613 : D4 613 = D 613 := by rw [o4 _ (by omega), d3 _ (by omega)]
    obtain ⟨E, m1, m2, m4, m5, p1, p2, p3, p4, p5⟩ := ev_mRestore (D := D4) (X := Y) (by rw [d613, hi.2.1]; exact h0)
    have hE : ∀ x : Nat, 1 ≤ x → x < 11 ∨ x = 14 ∨ (308 ≤ x ∧ x ≠ 613 ∧ x ≠ 616 ∧ x ≠ 617 ∧ x ≠ 619 ∧ x ≠ 620 ∧ x ≠ 626) → E x = D x := fun x x0 hx => by rw [m2 x (by omega) (by omega) (by omega) (by omega) (by omega) (by omega), o4 x (by omega), d3 x (by omega)]
    rw [d613] at m4 m5
    rw [o4 _ (by omega), d3 _ (by omega)] at p1 p2 p3 p4 p5
    have eb : eqB (D 315 9) (D 630) (D 631) (E 619) (E 620) := fun b b0 b1 => ⟨p3 b b0 (by omega), fun i i0 i1 => p4 _ (by omega) (by omega)⟩
    have hln := rDk_ln i1
    have a15 : agS (stt E 15) (stt D 315) := agS_tr (agS_of fun j hj => (m2 _ (by omega) (by omega) (by omega) (by omega) (by omega) (by omega)).trans (o4 _ (by omega))) d15
    have x9 : E 15 9 = D 315 9 := a15.2.2.2.2.2.2.1
    have x11 : E 11 = cm_cp (D 311) (D 11) 0 0 (D 315 9) := by rw [m2 _ (by omega) (by omega) (by omega) (by omega) (by omega) (by omega), o4 _ (by omega), d11]
    have x12 : E 12 = cm_cp (D 312) (D 12) 0 0 (D 315 9) := by rw [m2 _ (by omega) (by omega) (by omega) (by omega) (by omega) (by omega), o4 _ (by omega), d12]
    have x13 : E 13 = cm_cp (D 313) (D 13) 0 0 (D 315 9 * 15) := by rw [m2 _ (by omega) (by omega) (by omega) (by omega) (by omega) (by omega), o4 _ (by omega), d13]
    have x26 : E 26 = D3 26 := by rw [m2 _ (by omega) (by omega) (by omega) (by omega) (by omega) (by omega), o4 _ (by omega)]
    have x0 : E 0 = cm_u1 (cm_u1 (D 0) 8 (D 308 4)) 9 (D 308 5) := by rw [m2 _ (by omega) (by omega) (by omega) (by omega) (by omega) (by omega), e4, d3 0 (by omega), d3 308 (by omega)]
    have y9 := hE 9 (by omega) (by omega)
    refine ⟨E, m1, ⟨?_, ⟨?_, ?_⟩, iR_hi (fun x hx => hE x (by omega) (by omega)) (m5 33 (by omega) (by omega)) (m5 34 (by omega) (by omega)) hi, ?_, ?_⟩, hE _ (by omega) (by omega)⟩
    · unfold Rc
      rw [x9, y9, hE 614 (by omega) (by omega), hE 615 (by omega) (by omega), hE 10 (by omega) (by omega), m5 21 (by omega) (by omega)]
      refine ⟨⟨?_, ?_, ?_, ?_, h90⟩, hc.2.1, hc.2.2.1, hc.2.2.2.1, rS_cg p1 (nS_ag a15 i5.1) (rS_ag a15 i5.1 i4), wS_ag a15 (wS_eq eb hln i2 (Int.le_refl _) i5)⟩
      · unfold zOk
        rw [y9, x12]
        refine ⟨hz.1, hz.2.1, hz.2.2.1, hz.2.2.2.1, fun b b0 b1 => ?_⟩
        by_cases hb : b < D 315 9
        · rw [cp0 b0 hb]
          obtain ⟨-, -, u3, u4, -⟩ := i1 b b0 hb
          rw [u4]
          exact mLen_b u3
        · rw [cp9 (by omega)]; exact hz.2.2.2.2 b b0 b1
      · rw [x11, x12, x13]
        exact rDk_eq eb (fun b b0 b1 => ⟨cp0 b0 b1, cp0 b0 b1, fun i i0 i1 => cp0 (by omega) (by omega)⟩) i1
      · rw [y9]; exact vDk_eq eb hln i2
      · rw [y9]; exact i3
    · rw [x9, y9, x26, n3, m3]
      have hcn := i6.2.1
      exact aG_eq eb hln i2 (fun q q0 q1 => agS_tr (agS_of fun j hj => (m2 _ (by unfold adr; omega) (by unfold adr; omega) (by unfold adr; omega) (by unfold adr; omega) (by unfold adr; omega) (by unfold adr; omega)).trans (o4 _ (by unfold adr; omega))) (dring q q0 q1)) (fun j j0 j1 => p2 j j0 (by omega)) (Int.le_refl _) i6
    · rw [m4, x26, m3]; exact i7
    · obtain ⟨t1, t2, t3, t4, t5, t6⟩ := hR.2.2.2.1
      unfold tR
      rw [x0, m5 9 (by omega) (by omega), m5 18 (by omega) (by omega), hE 1 (by omega) (by omega), hE 621 (by omega) (by omega), p5 0 (by omega) (by omega), p5 1 (by omega) (by omega)]
      exact ⟨t1, t2, t3, t4, i8.symm, i9.symm⟩
    · have := hR.2.2.2.2
      unfold lkOk at *
      rw [y9, hE 14 (by omega) (by omega)]
      exact ⟨⟨this.1.1, by have := this.1.2; omega⟩, this.2⟩
