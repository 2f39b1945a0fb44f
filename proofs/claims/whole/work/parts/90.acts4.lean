/-! revert, rename -/
variable {D E : Nat → Int → Int} {X : cm_X} {K B : Int → Int} {h pk t : Int} {r : Int → Int}
theorem q_revert (hR : R D t) (X : cm_X) (n : Int) {k : Int} (hk32 : i32 k) : MM t D X (fun H => cm_x 129 0 [some (.inr (.inr 0)), some (.inl (n)), some (.inl (k)), none] [] H) (fun H => cm_x 251 0 [some (.inr (.inr 613)), some (.inl (n)), some (.inl (k)), none, none] [] H) := by
  have hc := hR.1
  have hd := hc.1
  have hr := hc.2.2.2.2.1
  have hn := hc.2.2.2.2.2.1
  have e242 : D 617 242 = D 15 7 := hr.2.2.2.2.1
  have epk : D 614 1 = D 9 1 := hc.2.1 1 (by omega) (by omega)
  have hm : mpO (D 619) (D 9 1) (D 15 9) (if k < 0 then -1 else alg (D 620) k.toNat (D 15 7)) := by
    by_cases h0 : k < 0
    · rw [if_pos h0]; exact Or.inl rfl
    · rw [if_neg h0]; exact alg_ok (d_g hd) _ (mp_15 hc)
  have cmr := fun X => ev_mapAlong (X := X) hd (mp_15 hc) hk32.2
  have mm : ∀ (F : Nat → Int → Int) Y, F 614 = D 614 → F 617 = D 617 → F 619 = D 619 → F 620 = D 620 → cm_x 229 0 [some (.inr (.inr 613)), some (.inl k)] [] (cm_hp F Y) = some (.inl (some (.inl (if k < 0 then -1 else alg (D 620) k.toNat (D 15 7)))), cm_hp F Y) := fun F Y e1 e2 e3 e4 => by
    have hmdF : mdOk F (D 15 9) := by
      have := Rc_md hc
      unfold mdOk at *
      rw [e1, e2, e3, e4]; exact this
    have := ev_mapBack (X := Y) hmdF (by rw [e1, e2, e3]; exact mp_617 hc) hk32.2
    rw [e2, e4, e242] at this
    exact this
  generalize (if k < 0 then -1 else alg (D 620) k.toNat (D 15 7)) = mp at hm cmr mm
  by_cases hh : cHas D n = 0
  · refine MM_f hR ?_ (fun Y => ?_)
    · show cm_x 129 0 [some (.inr (.inr 0)), some (.inl (n)), some (.inl (k)), none] [] (cm_hp D X) = _
      rw [sg_X8_revert_0, ev_has, aft_v, sg_X8_revert_8, if_pos hh, sg_X8_refuse_0, aft_v, sg_X8_revert_15]
    · show cm_x 251 0 [some (.inr (.inr 613)), some (.inl n), some (.inl k), none, none] [] (cm_hp (cm_up D 0 9 (cm_wr (D 0 9 + 1))) Y) = _
      have eh : mHas ((cm_up (cm_up D 0 9 (cm_wr (D 0 9 + 1))) 613 0 0) 617) n = cHas D n := eq_has hr hn n
      rw [sg_X9_revert_0, mm (cm_up (cm_up D 0 9 (cm_wr (D 0 9 + 1))) 613 0 0) Y rfl rfl rfl rfl, aft_v, sg_X9_revert_10]
      by_cases h1 : mp = -1
      · rw [if_pos h1, sg_X9_revert_34, sg_X9_refuse_0, aft_v, sg_X9_revert_46]
        rfl
      · rw [if_neg h1, ev_mFile, eh, aft_v, sg_X9_revert_21, if_pos hh, sg_X9_revert_34, sg_X9_refuse_0, aft_v, sg_X9_revert_46]
        rfl
  · obtain ⟨⟨n0, n1⟩, nv⟩ := cHas_1 hh
    by_cases he : (if mp = -1 then -1 else mEnt (D 620) mp n) = -1
    · refine MM_f hR ?_ (fun Y => ?_)
      · show cm_x 129 0 [some (.inr (.inr 0)), some (.inl (n)), some (.inl (k)), none] [] (cm_hp D X) = _
        rw [sg_X8_revert_0, ev_has, aft_v, sg_X8_revert_8, if_neg hh, cmr, aft_v, sg_X8_revert_35, ev_entryBy hd hm n0 n1, aft_v, sg_X8_revert_39, if_pos he, sg_X8_refuse_0, aft_v, sg_X8_revert_49]
      · show cm_x 251 0 [some (.inr (.inr 613)), some (.inl n), some (.inl k), none, none] [] (cm_hp (cm_up D 0 9 (cm_wr (D 0 9 + 1))) Y) = _
        have eh : mHas ((cm_up (cm_up D 0 9 (cm_wr (D 0 9 + 1))) 613 0 0) 617) n = cHas D n := eq_has hr hn n
        rw [sg_X9_revert_0, mm (cm_up (cm_up D 0 9 (cm_wr (D 0 9 + 1))) 613 0 0) Y rfl rfl rfl rfl, aft_v, sg_X9_revert_10]
        by_cases h1 : mp = -1
        · rw [if_pos h1, sg_X9_revert_34, sg_X9_refuse_0, aft_v, sg_X9_revert_46]
          rfl
        · rw [if_neg h1] at he
          have hmd : mdOk (cm_up (cm_up D 0 9 (cm_wr (D 0 9 + 1))) 613 0 0) (D 15 9) := Rc_md hc
          have hmm : mpO ((cm_up (cm_up D 0 9 (cm_wr (D 0 9 + 1))) 613 0 0) 619) ((cm_up (cm_up D 0 9 (cm_wr (D 0 9 + 1))) 613 0 0) 614 1) (D 15 9) mp := by
            show mpO (D 619) (D 614 1) (D 15 9) mp
            rw [epk]; exact hm
          have q : mEnt ((cm_up (cm_up D 0 9 (cm_wr (D 0 9 + 1))) 613 0 0) 620) mp n = -1 := he
          rw [if_neg h1, ev_mFile, eh, aft_v, sg_X9_revert_21, if_neg hh, ev_mEntryBy hmd hmm h1 n0 n1, aft_v, q, sg_X9_revert_34, sg_X9_refuse_0, aft_v, sg_X9_revert_46]
          rfl
    · have h1 : mp ≠ -1 := fun z => he (by rw [if_pos z])
      rw [if_neg h1] at he
      have eo := mEnt_ok (d_g hd) hm h1 n0 n1 he
      have hmh : mp ≤ D 15 9 := by rcases hm with hm | ⟨⟨_, _⟩, _⟩ <;> omega
      obtain ⟨D1, k1, hk, hr1, hw1, hd1⟩ := kp_run hR X
      have hn1 := hw1.1
      have e16 := KP_o hR hk (x := 16) (by omega)
      have nv1 : D1 16 n ≠ 0 := by rw [e16]; exact nv
      have hle := ent_len (d_g hd) eo hmh
      obtain ⟨b, m, c1, c2⟩ := ev_takeCells (X := X) hd1 n0 n1 eo hmh
      have f2 : ∀ x : Nat, (x < 15 ∨ 22 ≤ x) → (cm_up (u90 (cm_up D1 17 n (D 620 (15 * mEnt (D 620) mp n + 8))) b m) 18 n 1) x = D1 x := fun x hx => celD_o hx
      generalize hD2 : cm_up (u90 (cm_up D1 17 n (D 620 (15 * mEnt (D 620) mp n + 8))) b m) 18 n 1 = D2 at f2
      have h17 : u90 (cm_up D1 17 n (D 620 (15 * mEnt (D 620) mp n + 8))) b m 17 n = D 620 (15 * mEnt (D 620) mp n + 8) := by
        show cm_u1 (D1 17) n _ n = _
        rw [u1_eq]
      refine ⟨D 620 (15 * mEnt (D 620) mp n + 8), D2, ?_, fun Y => ?_⟩
      · show cm_x 129 0 [some (.inr (.inr 0)), some (.inl (n)), some (.inl (k)), none] [] (cm_hp D X) = _
        rw [sg_X8_revert_0, ev_has, aft_v, sg_X8_revert_8, if_neg hh, cmr, aft_v, sg_X8_revert_35, ev_entryBy hd hm n0 n1, aft_v, if_neg h1, sg_X8_revert_39, if_neg he, k1, aft_n, sg_X8_revert_61, c1, aft_n, sg_X8_revert_74, ck_t (by omega), ck_t (by omega), h17, hD2]
      · obtain ⟨g, m1, m2⟩ := mk_run hR hk f2 Y
        have hfr : ∀ x : Nat, (308 ≤ x) → D2 x = D x := fun x hx => by rw [f2 x (by omega), KP_o hR hk (by omega)]
        have h617 : D2 617 = D1 617 := f2 617 (by omega)
        have hmdE : mdOk (cm_up D2 613 0 0) (D 15 9) := by
          have := Rc_md hc
          unfold mdOk at *
          show gOk (D2 614 1) (D2 619) (D2 620) (D 15 9) ∧ D2 617 244 = D 15 9 ∧ 2 ≤ D2 614 1 ∧ D2 614 1 ≤ 16
          rw [hfr 614 (by omega), hfr 617 (by omega), hfr 619 (by omega), hfr 620 (by omega)]; exact this
        have hmdK : mdOk (kE D2 g) (D 15 9) := hmdE
        have hmm : mpO ((cm_up D2 613 0 0) 619) ((cm_up D2 613 0 0) 614 1) (D 15 9) mp := by
          show mpO (D2 619) (D2 614 1) (D 15 9) mp
          rw [hfr 619 (by omega), hfr 614 (by omega), epk]; exact hm
        have q : mEnt ((cm_up D2 613 0 0) 620) mp n = mEnt (D 620) mp n := by
          show mEnt (D2 620) mp n = _
          rw [hfr 620 (by omega)]
        have eoE : entOk ((kE D2 g) 619) ((kE D2 g) 620) (mEnt (D 620) mp n) mp := by
          show entOk (D2 619) (D2 620) _ _
          rw [hfr 619 (by omega), hfr 620 (by omega)]; exact eo
        obtain ⟨f, l1, l2⟩ := ev_mTakeCells (E := kE D2 g) (X := Y) hmdK n0 n1 eoE hmh
        have hw617 : (kE D2 g) 617 = D1 617 := h617
        have hw620 : (kE D2 g) 620 = D 620 := hfr 620 (by omega)
        rw [hw617, hw620] at l2
        obtain ⟨e1, e2⟩ := cel_R hr1 (n := n) (l := D 620 (15 * mEnt (D 620) mp n + 8)) (wS_x hw1 n) n0 n1 nv1 hle.1 hle.2 c2 l2 (fun c c0 c1 => Or.inr (by
          obtain ⟨⟨x0, x1⟩, xk⟩ := eo.2.2 c c0 c1
          have h15 : D1 15 9 = D 15 9 := by rw [KP_o hR hk (by omega)]
          have := eo.1.2
          exact ⟨⟨x0, by omega⟩, xk⟩))
        rw [hD2] at e1 e2
        have w24 : cm_wr (24 + n) = 24 + n := cm_wr_id (by omega) (by omega)
        have w12 : cm_wr (12 + n) = 12 + n := cm_wr_id (by omega) (by omega)
        have hf12 : cm_u1 f (24 + n) 1 (12 + n) = D 620 (15 * mEnt (D 620) mp n + 8) := by
          rw [u1_ne (by omega), l2.2 _ (by omega), u1_eq]
        have eh : mHas ((cm_up D2 613 0 0) 617) n = cHas D1 n := by
          show mHas (D2 617) n = _
          rw [h617]; exact eq_has hr1 hn1 n
        have hh1 : cHas D1 n ≠ 0 := by unfold cHas; rw [if_pos ⟨n0, n1, nv1⟩]; omega
        refine ⟨cm_ua (kE D2 g) 617 (cm_u1 f (24 + n) 1), ?_, act_fin hR hk.1 hk.2.1 hk.2.2.1 hk.2.2.2 f2 m2 e1 e2 ?_⟩
        · show cm_x 251 0 [some (.inr (.inr 613)), some (.inl n), some (.inl k), none, none] [] (cm_hp D2 Y) = _
          rw [sg_X9_revert_0, mm (cm_up D2 613 0 0) Y (hfr 614 (by omega)) (hfr 617 (by omega)) (hfr 619 (by omega)) (hfr 620 (by omega)), aft_v, sg_X9_revert_10, if_neg h1, ev_mFile, eh, aft_v, sg_X9_revert_21, if_neg hh1, ev_mEntryBy hmdE hmm h1 n0 n1, aft_v, q, sg_X9_revert_34_1, if_neg he, m1, aft_n, sg_X9_revert_51, l1, aft_n, sg_X9_revert_58, w24, w12, ck_t (by omega), ck_t (by omega), ua_same, hf12, up_to_ua, ua_ua, ua_same]
        · rw [← hD2]
          show D1 15 9 = D 15 9
          rw [KP_o hR hk (by omega)]
def renD (D : Nat → Int → Int) (n to : Int) (b m : Int → Int) : Nat → Int → Int := cm_up (cm_up (cm_up (cm_up (u90 (cm_up (cm_up (cm_up D 16 to (D 16 n)) 18 to ((D 18 n) % 2)) 17 to (D 17 n)) b m) 16 n 0) 17 n 0) 18 n 0) 15 6 1
def renM (f : Int → Int) (n to : Int) : Int → Int := cm_u1 (cm_u1 (cm_u1 (cm_u1 (cm_u1 (cm_u1 f to (f n)) (24 + to) (f (24 + n))) n (-1)) (12 + n) 0) (24 + n) 0) 241 1
theorem ren_R (hr : rS (stt D 15) r) (hw : wS pk K B (stt D 15)) {n to : Int} (n0 : 0 ≤ n) (n1 : n < 12) (t0 : 0 ≤ to) (t1 : to < 12) (hv : D 16 n ≠ 0) (ht : D 16 to = 0) {b m f : Int → Int} (hq : cQ b m (D 19) (D 20) to (D 17 n) (fun c => D 19 (n * 8 + c)) (fun c => D 20 (n * 8 + c))) (hm : cM f (cm_u1 r (12 + to) (r (12 + n))) to 8 (fun c => r (36 + 8 * n + c)) (fun c => r (132 + 8 * n + c))) : rS (stt (renD D n to b m) 15) (renM f n to) ∧ wS pk K B (stt (renD D n to b m) 15) := by
  have hne : n ≠ to := fun z => hv (by rw [z]; exact ht)
  obtain ⟨r1, r2, r3, r4, r5, r6, r7, r8⟩ := hr
  obtain ⟨⟨s1, s2, s3⟩, ⟨v1, v2, v3, v4, v5, v6, v7⟩, hi⟩ := hw
  have q1 : stt (renD D n to b m) 15 1 = cm_u1 (cm_u1 (D 16) to (D 16 n)) n 0 := rfl
  have q2 : stt (renD D n to b m) 15 2 = cm_u1 (cm_u1 (D 17) to (D 17 n)) n 0 := rfl
  have q3 : stt (renD D n to b m) 15 3 = cm_u1 (cm_u1 (D 18) to ((D 18 n) % 2)) n 0 := rfl
  have q4 : stt (renD D n to b m) 15 4 = b := rfl
  have q5 : stt (renD D n to b m) 15 5 = m := rfl
  have q6 : stt (renD D n to b m) 15 6 = D 21 := rfl
  have q0 : stt (renD D n to b m) 15 0 = cm_u1 (D 15) 6 1 := rfl
  obtain ⟨g1, g2⟩ := hq
  obtain ⟨m1, m2⟩ := hm
  have hln : 0 ≤ D 17 n ∧ D 17 n ≤ 8 := (s2 n n0 n1).2.1
  have h18 : D 18 n = 0 ∨ D 18 n = 1 := (s2 n n0 n1).2.2.1
  have h18m : D 18 n % 2 = D 18 n := by omega
  have hvn : 0 ≤ D 16 n ∧ D 16 n ≤ 12 := (s2 n n0 n1).1
  have fn : f n = D 16 n := by
    have : r n = (if D 16 n = 0 then -1 else D 16 n) := (r1 n n0 n1).1
    rw [if_neg hv] at this
    rw [m2 n (by omega), u1_ne (by omega)]; exact this
  have f24 : f (24 + n) = D 18 n := by rw [m2 _ (by omega), u1_ne (by omega)]; exact (r1 n n0 n1).2.2
  have r12 : r (12 + n) = D 17 n := (r1 n n0 n1).2.1
  constructor
  · unfold rS
    rw [q0, q1, q2, q3, q4, q5, q6]
    unfold renM
    rw [fn, f24, h18m]
    refine ⟨fun k k0 k1 => ?_, fun k d k0 k1 d0 d1 => ?_, fun w w0 w1 => ?_, ?_, ?_, ?_, ?_, ?_⟩
    · obtain ⟨h1, h2, h3⟩ := r1 k k0 k1
      by_cases hk : k = n
      · subst hk
        simp (disch := omega) only [u1_ne, u1_eq]
        exact ⟨rfl, trivial, trivial⟩
      · by_cases hk2 : k = to
        · subst hk2
          simp (disch := omega) only [u1_ne, u1_eq]
          refine ⟨?_, ?_, trivial⟩
          · rw [if_neg hv]
          · rw [m2 _ (by omega), u1_eq]; exact r12
        · simp (disch := omega) only [u1_ne]
          rw [m2 k (by omega), m2 (12 + k) (by omega), m2 (24 + k) (by omega), u1_ne (by omega), u1_ne (by omega), u1_ne (by omega)]
          exact ⟨h1, h2, h3⟩
    · have hlk : D 17 k ≤ 8 := (s2 k k0 k1).2.1.2
      by_cases hk : k = n
      · subst hk
        rw [u1_eq] at d1
        omega
      · rw [u1_ne hk] at d1
        by_cases hk2 : k = to
        · subst hk2
          rw [u1_eq] at d1
          simp (disch := omega) only [u1_ne]
          rw [(m1 d d0 (by omega)).1, (m1 d d0 (by omega)).2, (g1 d d0 d1).1, (g1 d d0 d1).2]
          exact r2 n d n0 n1 d0 d1
        · rw [u1_ne hk2] at d1
          have d1' : d < D 17 k := d1
          simp (disch := omega) only [u1_ne]
          rw [m2 (36 + 8 * k + d) (by omega), m2 (132 + 8 * k + d) (by omega), u1_ne (by omega), u1_ne (by omega), (g2 (k * 8 + d) (by omega)).1, (g2 (k * 8 + d) (by omega)).2]
          exact r2 k d k0 k1 d0 d1
    · simp (disch := omega) only [u1_ne]
      rw [m2 _ (by omega), u1_ne (by omega)]; exact r3 w w0 w1
    · rw [u1_eq, u1_eq]
    · simp (disch := omega) only [u1_ne]
      rw [m2 _ (by omega), u1_ne (by omega)]; exact r5
    · simp (disch := omega) only [u1_ne]
      rw [m2 _ (by omega), u1_ne (by omega)]; exact r6
    · simp (disch := omega) only [u1_ne]
      rw [m2 _ (by omega), u1_ne (by omega)]; exact r7
    · simp (disch := omega) only [u1_ne]
      rw [m2 _ (by omega), u1_ne (by omega)]; exact r8
  · unfold wS nS vS
    rw [q0, q1, q2, q3, q4, q6, h18m]
    have e9 : cm_u1 (D 15) 6 1 9 = D 15 9 := rfl
    have e7 : cm_u1 (D 15) 6 1 7 = D 15 7 := rfl
    have e10 : cm_u1 (D 15) 6 1 10 = D 15 10 := rfl
    have e6 : cm_u1 (D 15) 6 1 6 = 1 := rfl
    rw [e9, e7, e10, e6]
    refine ⟨⟨Or.inr rfl, fun k k0 k1 => ?_, fun k j k0 k1 j0 j1 => ?_⟩, ⟨v1, v2, fun k d k0 k1 d0 d1 => ?_, v4, v5, fun z => absurd z (by omega), fun k k0 k1 => ?_⟩, hi⟩
    · obtain ⟨t1, t2, t3, t4⟩ := s2 k k0 k1
      by_cases hk : k = n
      · subst hk
        rw [u1_eq, u1_eq, u1_eq]
        exact ⟨by omega, by omega, Or.inl rfl, fun _ => ⟨rfl, rfl⟩⟩
      · rw [u1_ne hk, u1_ne hk, u1_ne hk]
        by_cases hk2 : k = to
        · subst hk2
          rw [u1_eq, u1_eq, u1_eq]
          exact ⟨hvn, hln, h18, fun z => absurd z hv⟩
        · rw [u1_ne hk2, u1_ne hk2, u1_ne hk2]; exact ⟨t1, t2, t3, t4⟩
    · by_cases hk : k = n
      · rw [hk, u1_eq]; intro _ z; exact absurd rfl z
      · rw [u1_ne hk]
        by_cases hj : j = n
        · rw [hj, u1_eq]; intro z z2; exact absurd z z2
        · rw [u1_ne hj]
          by_cases hk2 : k = to
          · by_cases hj2 : j = to
            · intro _ _; omega
            · rw [hk2, u1_eq, u1_ne hj2]
              intro z _
              exact absurd (s3 n j n0 n1 j0 j1 z hv) (fun z => hj z.symm)
          · rw [u1_ne hk2]
            by_cases hj2 : j = to
            · rw [hj2, u1_eq]
              intro z z2
              exact absurd (s3 k n k0 k1 n0 n1 z z2) hk
            · rw [u1_ne hj2]; exact s3 k j k0 k1 j0 j1
    · have hlk : D 17 k ≤ 8 := (s2 k k0 k1).2.1.2
      by_cases hk : k = n
      · subst hk
        rw [u1_eq] at d1
        omega
      · rw [u1_ne hk] at d1
        by_cases hk2 : k = to
        · subst hk2
          rw [u1_eq] at d1
          rw [(g1 d d0 d1).1]
          exact v3 n d n0 n1 d0 d1
        · rw [u1_ne hk2] at d1
          have d1' : d < D 17 k := d1
          rw [(g2 (k * 8 + d) (by omega)).1]
          exact v3 k d k0 k1 d0 d1
    · by_cases hk : k = n
      · rw [hk, u1_eq]; intro z; exact absurd rfl z
      · rw [u1_ne hk, u1_ne hk]
        by_cases hk2 : k = to
        · rw [hk2, u1_eq, u1_eq]; exact v7 n n0 n1
        · rw [u1_ne hk2, u1_ne hk2]; exact v7 k k0 k1
theorem renD_o {n to : Int} {b m : Int → Int} {x : Nat} (hx : x < 15 ∨ 22 ≤ x) : renD D n to b m x = D x := by
  unfold renD u90
  rw [up_row (by omega), up_row (by omega), up_row (by omega), up_row (by omega), ua_row (by omega), ua_row (by omega), up_row (by omega), up_row (by omega), up_row (by omega)]
/-- a call that answers a truth: refused, it is false -/
theorem q_rename (hR : R D t) (X : cm_X) (n k : Int) : MM t D X (fun H => cm_x 127 0 [some (.inr (.inr 0)), some (.inl (n)), some (.inl (k))] [] H) (fun H => cm_x 249 0 [some (.inr (.inr 613)), some (.inl (n)), some (.inl (k))] [] H) := by
  have hc := hR.1
  have hr := hc.2.2.2.2.1
  have hn := hc.2.2.2.2.2.1
  by_cases hg : canG D n k
  · obtain ⟨D1, k1, hk, hr1, hw1, hd1⟩ := kp_run hR X
    have hg1 := canG_1 hR hk hg
    have hn1 := hw1.1
    obtain ⟨hh1, ⟨t0, t1⟩, tz⟩ := hg1
    obtain ⟨⟨n0, n1⟩, nv⟩ := cHas_1 hh1
    have hne : n ≠ k := fun z => nv (by rw [z]; exact tz)
    have hln : 0 ≤ D1 17 n ∧ D1 17 n ≤ 8 := (hn1.2.1 n n0 n1).2.1
    obtain ⟨b, m, c1, c2⟩ := ev_copyCells (D := cm_up (cm_up D1 16 k (D1 16 n)) 18 k ((D1 18 n) % 2)) (X := X) n0 n1 t0 t1 hne hln
    have f2 : ∀ x : Nat, (x < 15 ∨ 22 ≤ x) → renD D1 n k b m x = D1 x := fun x hx => renD_o hx
    refine ⟨1, renD D1 n k b m, ?_, fun Y => ?_⟩
    · show cm_x 127 0 [some (.inr (.inr 0)), some (.inl (n)), some (.inl (k))] [] (cm_hp D X) = _
      rw [sg_X8_rename_0, ev_canGo, aft_v, sg_X8_rename_9, tv_t hg, if_neg (by omega), k1, aft_n, sg_X8_rename_35, sg_X6_renameFile_0, ck_t (by omega), ck_t (by omega), ck_t (by omega), ck_t (by omega), c1, aft_n, sg_X6_renameFile_30, sg_X6_forget_0, ck_t (by omega), ck_t (by omega), ck_t (by omega), aft_n, sg_X6_renameFile_35, aft_n, sg_X8_rename_44]
      rfl
    · obtain ⟨g, m1, m2⟩ := mk_run hR hk f2 Y
      have h617 : renD D1 n k b m 617 = D1 617 := f2 617 (by omega)
      have hw617 : (kE (renD D1 n k b m) g) 617 = D1 617 := h617
      have hrE : rS (stt D1 15) ((cm_up (renD D1 n k b m) 613 0 0) 617) := by
        show rS (stt D1 15) (renD D1 n k b m 617)
        rw [h617]; exact hr1
      obtain ⟨f, l1, l2⟩ := ev_likeCells (E := kE (renD D1 n k b m) g) (X := Y) n0 n1 t0 t1 hne
      rw [hw617] at l2
      obtain ⟨e1, e2⟩ := ren_R hr1 hw1 n0 n1 t0 t1 nv tz c2 l2
      have w1 : cm_wr (0 + n) = n := by rw [Int.zero_add]; exact cm_wr_id (by omega) (by omega)
      have w2 : cm_wr (0 + k) = k := by rw [Int.zero_add]; exact cm_wr_id (by omega) (by omega)
      have w3 : cm_wr (24 + n) = 24 + n := cm_wr_id (by omega) (by omega)
      have w4 : cm_wr (24 + k) = 24 + k := cm_wr_id (by omega) (by omega)
      have w5 : cm_wr (12 + n) = 12 + n := cm_wr_id (by omega) (by omega)
      have e24 : cm_u1 f k (f n) (24 + n) = f (24 + n) := u1_ne (by omega)
      refine ⟨cm_ua (kE (renD D1 n k b m) g) 617 (renM f n k), ?_, act_fin hR hk.1 hk.2.1 hk.2.2.1 hk.2.2.2 f2 m2 e1 e2 ?_⟩
      · show cm_x 249 0 [some (.inr (.inr 613)), some (.inl n), some (.inl k)] [] (cm_hp (renD D1 n k b m) Y) = _
        rw [sg_X9_rename_0, ev_mCanGo hrE hn1, aft_v, sg_X9_rename_11, tv_t (canG_1 hR hk hg), if_neg (by omega), m1, aft_n, sg_X9_rename_25, l1, aft_n, sg_X9_rename_31, w1, w2, w3, w4, w5, ck_t (by omega), ck_t (by omega), ck_t (by omega), ck_t (by omega), ck_t (by omega), ck_t (by omega), ck_t (by omega), ua_same, e24]
        simp only [up_to_ua, ua_ua, ua_same]
        rfl
      · show D1 15 9 = D 15 9
        rw [KP_o hR hk (by omega)]
  · refine ⟨0, cm_up D 0 9 (cm_wr (D 0 9 + 1)), ?_, fun Y => ⟨rfE D, ?_, rf_R hR, rfl⟩⟩
    · show cm_x 127 0 [some (.inr (.inr 0)), some (.inl (n)), some (.inl (k))] [] (cm_hp D X) = _
      rw [sg_X8_rename_0, ev_canGo, aft_v, sg_X8_rename_9, tv_f hg, if_pos rfl]
    · show cm_x 249 0 [some (.inr (.inr 613)), some (.inl n), some (.inl k)] [] (cm_hp (cm_up D 0 9 (cm_wr (D 0 9 + 1))) Y) = _
      rw [sg_X9_rename_0, ev_mCanGo (D := D) (E := cm_up (cm_up D 0 9 (cm_wr (D 0 9 + 1))) 613 0 0) hr hn, aft_v, sg_X9_rename_11, tv_f hg, if_pos rfl, sg_X9_refuse_0, aft_v, sg_X9_rename_18]
      rfl
