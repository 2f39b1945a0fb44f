/-! erase, cut -/
variable {D E : Nat → Int → Int} {X : cm_X} {K B : Int → Int} {h pk t : Int} {r : Int → Int}
abbrev rfD (D : Nat → Int → Int) : Nat → Int → Int := cm_up (cm_up D 0 9 (cm_wr (D 0 9 + 1))) 613 0 0
def eraD (D : Nat → Int → Int) (n : Int) : Nat → Int → Int := cm_up (cm_up (cm_up (cm_up (cm_up D 21 (D 16 n) (-1)) 16 n 0) 17 n 0) 18 n 0) 15 6 1
def eraM (r : Int → Int) (n : Int) : Int → Int := cm_u1 (cm_u1 (cm_u1 (cm_u1 (cm_u1 r (228 + r n) (-1)) n (-1)) (12 + n) 0) (24 + n) 0) 241 1
theorem ev_erase {n : Int} (n0 : 0 ≤ n) (n1 : n < 12) (hv : 0 ≤ D 16 n ∧ D 16 n ≤ 12) : cm_x 85 0 [some (.inr (.inr 15)), some (.inl (n))] [] (cm_hp D X) = some (.inl none, cm_hp (eraD D n) X) := by
  rw [sg_X6_eraseFile_0, ck_t (by omega), ck_t (by omega), sg_X6_forget_0, ck_t (by omega), ck_t (by omega), ck_t (by omega), aft_n, sg_X6_eraseFile_17]
  rfl
theorem ev_mErase {n : Int} (n0 : 0 ≤ n) (n1 : n < 12) (hv : 0 ≤ E 617 n ∧ E 617 n ≤ 12) : cm_x 245 0 [some (.inr (.inr 613)), some (.inl (n))] [] (cm_hp E X) = some (.inl none, cm_hp (cm_ua E 617 (eraM (E 617) n)) X) := by
  have e0 : cm_wr (0 + n) = n := by rw [Int.zero_add]; exact cm_wr_id (by omega) (by omega)
  have e1 : cm_wr (228 + E 617 n) = 228 + E 617 n := cm_wr_id (by omega) (by omega)
  have e2 : cm_wr (12 + n) = 12 + n := cm_wr_id (by omega) (by omega)
  have e3 : cm_wr (24 + n) = 24 + n := cm_wr_id (by omega) (by omega)
  rw [sg_X9_eraseNow_0, e0, ck_t (by omega), e1, ck_t (by omega), ck_t (by omega), e2, ck_t (by omega), e3, ck_t (by omega)]
  simp only [up_to_ua, ua_ua, ua_same]
  rfl
theorem era_R (hr : rS (stt D 15) r) (hw : wS pk K B (stt D 15)) {n : Int} (n0 : 0 ≤ n) (n1 : n < 12) (hn : D 16 n ≠ 0) : rS (stt (eraD D n) 15) (eraM r n) ∧ wS pk K B (stt (eraD D n) 15) := by
  obtain ⟨r1, r2, r3, r4, r5, r6, r7, r8⟩ := hr
  obtain ⟨⟨s1, s2, s3⟩, ⟨v1, v2, v3, v4, v5, v6, v7⟩, hi⟩ := hw
  have q1 : stt (eraD D n) 15 1 = cm_u1 (D 16) n 0 := rfl
  have q2 : stt (eraD D n) 15 2 = cm_u1 (D 17) n 0 := rfl
  have q3 : stt (eraD D n) 15 3 = cm_u1 (D 18) n 0 := rfl
  have q4 : stt (eraD D n) 15 4 = D 19 := rfl
  have q5 : stt (eraD D n) 15 5 = D 20 := rfl
  have q6 : stt (eraD D n) 15 6 = cm_u1 (D 21) (D 16 n) (-1) := rfl
  have q0 : stt (eraD D n) 15 0 = cm_u1 (D 15) 6 1 := rfl
  have hv : 0 ≤ D 16 n ∧ D 16 n ≤ 12 := (s2 n n0 n1).1
  have hrn : r n = D 16 n := by
    have : r n = (if D 16 n = 0 then -1 else D 16 n) := (r1 n n0 n1).1
    rw [if_neg hn] at this
    exact this
  constructor
  · unfold rS
    rw [q0, q1, q2, q3, q4, q5, q6]
    unfold eraM
    rw [hrn]
    refine ⟨fun m m0 m1 => ?_, fun m d m0 m1 d0 d1 => ?_, fun w w0 w1 => ?_, ?_, ?_, ?_, ?_, ?_⟩
    · obtain ⟨h1, h2, h3⟩ := r1 m m0 m1
      by_cases hm : m = n
      · subst hm
        simp (disch := omega) only [u1_ne, u1_eq]
        exact ⟨rfl, trivial, trivial⟩
      · simp (disch := omega) only [u1_ne]
        exact ⟨h1, h2, h3⟩
    · have hlm : D 17 m ≤ 8 := (s2 m m0 m1).2.1.2
      by_cases hm : m = n
      · subst hm
        rw [u1_eq] at d1
        omega
      · rw [u1_ne hm] at d1
        have d1' : d < D 17 m := d1
        simp (disch := omega) only [u1_ne]
        exact r2 m d m0 m1 d0 d1
    · have h1 : r (228 + w) = D 21 w := r3 w w0 w1
      by_cases hq : w = D 16 n
      · subst hq
        simp (disch := omega) only [u1_ne, u1_eq]
      · simp (disch := omega) only [u1_ne]
        exact h1
    · rw [u1_eq, u1_eq]
    · simp (disch := omega) only [u1_ne]; exact r5
    · simp (disch := omega) only [u1_ne]; exact r6
    · simp (disch := omega) only [u1_ne]; exact r7
    · simp (disch := omega) only [u1_ne]; exact r8
  · unfold wS nS vS
    rw [q0, q1, q2, q3, q4, q6]
    have e9 : cm_u1 (D 15) 6 1 9 = D 15 9 := rfl
    have e7 : cm_u1 (D 15) 6 1 7 = D 15 7 := rfl
    have e10 : cm_u1 (D 15) 6 1 10 = D 15 10 := rfl
    have e6 : cm_u1 (D 15) 6 1 6 = 1 := rfl
    have e60 : cm_u1 (D 21) (D 16 n) (-1) 0 = D 21 0 := u1_ne (fun z => hn z.symm)
    rw [e9, e7, e10, e6, e60]
    refine ⟨⟨Or.inr rfl, fun m m0 m1 => ?_, fun m k m0 m1 k0 k1 => ?_⟩, ⟨v1, v2, fun m d m0 m1 d0 d1 => ?_, fun w w0 w1 => ?_, v5, fun z => absurd z (by omega), fun m m0 m1 => ?_⟩, hi⟩
    · obtain ⟨t1, t2, t3, t4⟩ := s2 m m0 m1
      by_cases hm : m = n
      · subst hm
        rw [u1_eq, u1_eq, u1_eq]
        exact ⟨by omega, by omega, Or.inl rfl, fun _ => ⟨rfl, rfl⟩⟩
      · rw [u1_ne hm, u1_ne hm, u1_ne hm]; exact ⟨t1, t2, t3, t4⟩
    · by_cases hm : m = n
      · rw [hm, u1_eq]; intro _ z; exact absurd rfl z
      · by_cases hk : k = n
        · rw [hk, u1_eq, u1_ne hm]; intro z z2; exact absurd z z2
        · rw [u1_ne hm, u1_ne hk]; exact s3 m k m0 m1 k0 k1
    · by_cases hm : m = n
      · subst hm
        rw [u1_eq] at d1
        omega
      · rw [u1_ne hm] at d1
        exact v3 m d m0 m1 d0 d1
    · by_cases hq : w = D 16 n
      · rw [hq, u1_eq]; exact Or.inl rfl
      · rw [u1_ne hq]; exact v4 w w0 w1
    · by_cases hm : m = n
      · rw [hm, u1_eq]; intro z; exact absurd rfl z
      · rw [u1_ne hm, u1_ne hm]
        intro z1 z2
        have : D 16 m ≠ D 16 n := fun z => hm (s3 m n m0 m1 n0 n1 z z1)
        rw [u1_ne this]
        exact v7 m m0 m1 z1 z2
theorem eraD_o {n : Int} {x : Nat} (hx : x < 15 ∨ 22 ≤ x) : eraD D n x = D x := by
  unfold eraD
  rw [up_row (by omega), up_row (by omega), up_row (by omega), up_row (by omega), up_row (by omega)]
theorem q_erase (hR : R D t) (X : cm_X) (n : Int) : MM t D X (fun H => cm_x 126 0 [some (.inr (.inr 0)), some (.inl (n)), none] [] H) (fun H => cm_x 246 0 [some (.inr (.inr 613)), some (.inl (n)), none] [] H) := by
  have hc := hR.1
  have hr := hc.2.2.2.2.1
  have hn := hc.2.2.2.2.2.1
  by_cases hh : cHas D n = 0
  · refine MM_f hR ?_ (fun Y => ?_)
    · show cm_x 126 0 [some (.inr (.inr 0)), some (.inl (n)), none] [] (cm_hp D X) = _
      rw [sg_X8_erase_0, ev_has, aft_v, sg_X8_erase_8, if_pos hh, sg_X8_refuse_0, aft_v, sg_X8_erase_15]
    · show cm_x 246 0 [some (.inr (.inr 613)), some (.inl n), none] [] (cm_hp (cm_up D 0 9 (cm_wr (D 0 9 + 1))) Y) = _
      have eh : mHas ((rfD D) 617) n = cHas D n := eq_has hr hn n
      rw [sg_X9_erase_0, ev_mFile, eh, aft_v, sg_X9_erase_10, if_pos hh, sg_X9_refuse_0, aft_v, sg_X9_erase_17]
      rfl
  · obtain ⟨⟨n0, n1⟩, nv⟩ := cHas_1 hh
    obtain ⟨D1, k1, hk, hr1, hw1, hd1⟩ := kp_run hR X
    have e16 := KP_o hR hk (x := 16) (by omega)
    have hn1 := hw1.1
    have hvb : 0 ≤ D1 16 n ∧ D1 16 n ≤ 12 := (hn1.2.1 n n0 n1).1
    have nv1 : D1 16 n ≠ 0 := by rw [e16]; exact nv
    obtain ⟨b1, b2⟩ := era_R hr1 hw1 n0 n1 nv1
    have f2 : ∀ x : Nat, (x < 15 ∨ 22 ≤ x) → eraD D1 n x = D1 x := fun x hx => eraD_o hx
    refine ⟨D1 17 n, eraD D1 n, ?_, fun Y => ?_⟩
    · show cm_x 126 0 [some (.inr (.inr 0)), some (.inl (n)), none] [] (cm_hp D X) = _
      rw [sg_X8_erase_0, ev_has, aft_v, sg_X8_erase_8, if_neg hh, k1, aft_n, sg_X8_erase_27, ck_t (by omega), ev_erase n0 n1 hvb, aft_n, sg_X8_erase_45]
    · obtain ⟨g, m1, m2⟩ := mk_run hR hk f2 Y
      have h617 : eraD D1 n 617 = D1 617 := f2 617 (by omega)
      have hw617 : (kE (eraD D1 n) g) 617 = D1 617 := h617
      have eh : mHas ((cm_up (eraD D1 n) 613 0 0) 617) n = cHas D1 n := by
        show mHas (eraD D1 n 617) n = _
        rw [h617]; exact eq_has hr1 hn1 n
      have hh1 : cHas D1 n ≠ 0 := by unfold cHas; rw [if_pos ⟨n0, n1, nv1⟩]; omega
      have em : D1 617 (12 + n) = D1 17 n := (hr1.1 n n0 n1).2.1
      have ev : D1 617 n = D1 16 n := by
        have : D1 617 n = (if D1 16 n = 0 then -1 else D1 16 n) := (hr1.1 n n0 n1).1
        rw [if_neg nv1] at this
        exact this
      have w12 : cm_wr (12 + n) = 12 + n := cm_wr_id (by omega) (by omega)
      refine ⟨cm_ua (kE (eraD D1 n) g) 617 (eraM (D1 617) n), ?_, act_fin hR hk.1 hk.2.1 hk.2.2.1 hk.2.2.2 f2 m2 b1 b2 ?_⟩
      · show cm_x 246 0 [some (.inr (.inr 613)), some (.inl n), none] [] (cm_hp (eraD D1 n) Y) = _
        rw [sg_X9_erase_0, ev_mFile, eh, aft_v, sg_X9_erase_10, if_neg hh1, m1, aft_n, sg_X9_erase_22, w12, ck_t (by omega), ev_mErase (E := kE (eraD D1 n) g) n0 n1 (by rw [hw617, ev]; exact hvb), aft_n, sg_X9_erase_37, hw617, em]
      · show D1 15 9 = D 15 9
        rw [KP_o hR hk (by omega)]
def cutD (D : Nat → Int → Int) (n c : Int) : Nat → Int → Int := cm_up (cm_up D 17 n c) 18 n 1
def cutQ (r r' : Int → Int) (n c : Int) : Prop := r' (12 + n) = c ∧ r' (24 + n) = 1 ∧ ∀ j, j ≠ 12 + n → j ≠ 24 + n → ¬ (36 + 8 * n + c ≤ j ∧ j < 36 + 8 * n + 8) → ¬ (132 + 8 * n + c ≤ j ∧ j < 132 + 8 * n + 8) → r' j = r j
theorem ev_mCut {n c w : Int} {q : Int → Int} (n0 : 0 ≤ n) (n1 : n < 12) (c0 : 0 ≤ c) (c1 : c < 8) : ∃ f, cm_x 244 74 [some (.inr (.inr 613)), some (.inl (n)), some (.inl (c)), some (.inl (w)), some (.inl (c))] [] (cm_hp (cm_ua E 617 q) X) = some (.inl (some (.inl (w))), cm_hp (cm_ua E 617 f) X) ∧ ∀ j, ¬ (36 + 8 * n + c ≤ j ∧ j < 36 + 8 * n + 8) → ¬ (132 + 8 * n + c ≤ j ∧ j < 132 + 8 * n + 8) → f j = q j := by
  obtain ⟨f, L, P1⟩ := lp_inv (X := fun x f => cm_x 244 74 [some (.inr (.inr 613)), some (.inl (n)), some (.inl (c)), some (.inl (w)), some (.inl (x))] [] (cm_hp (cm_ua E 617 f) X)) (P := fun x f => ∀ j, ¬ (36 + 8 * n + c ≤ j ∧ j < 36 + 8 * n + 8) → ¬ (132 + 8 * n + c ≤ j ∧ j < 132 + 8 * n + 8) → f j = q j) (lo := c) (hi := 8) (fun x f x0 x1 hP => by
    refine ⟨cm_u1 (cm_u1 f (36 + 8 * n + x) (-1)) (132 + 8 * n + x) 0, ?_, fun j j0 j1 => ?_⟩
    · show cm_x 244 74 [some (.inr (.inr 613)), some (.inl (n)), some (.inl (c)), some (.inl (w)), some (.inl (x))] [] (cm_hp (cm_ua E 617 f) X) = cm_x 244 74 [some (.inr (.inr 613)), some (.inl (n)), some (.inl (c)), some (.inl (w)), some (.inl (x + 1))] [] (cm_hp (cm_ua E 617 (cm_u1 (cm_u1 f (36 + 8 * n + x) (-1)) (132 + 8 * n + x) 0)) X)
      rw [sg_X9_cut_74, if_pos x1]
      simp (disch := omega) only [cm_wr_id, ck_t]
      simp only [up_to_ua, ua_ua, ua_same]
    · rw [u1_ne (by omega), u1_ne (by omega)]; exact hP j j0 j1) q (by omega) (fun _ _ _ => rfl)
  refine ⟨f, L.trans ?_, P1⟩
  show cm_x 244 74 [some (.inr (.inr 613)), some (.inl (n)), some (.inl (c)), some (.inl (w)), some (.inl (8))] [] (cm_hp (cm_ua E 617 f) X) = _
  rw [sg_X9_cut_74, if_neg (by omega)]
theorem cut_R (hr : rS (stt D 15) r) (hw : wS pk K B (stt D 15)) {n c : Int} {r' : Int → Int} (n0 : 0 ≤ n) (n1 : n < 12) (hn : D 16 n ≠ 0) (c0 : 0 ≤ c) (c1 : c < D 17 n) (hq : cutQ r r' n c) : rS (stt (cutD D n c) 15) r' ∧ wS pk K B (stt (cutD D n c) 15) := by
  obtain ⟨r1, r2, r3, r4, r5, r6, r7, r8⟩ := hr
  obtain ⟨⟨s1, s2, s3⟩, ⟨v1, v2, v3, v4, v5, v6, v7⟩, hi⟩ := hw
  obtain ⟨p1, p2, p3⟩ := hq
  have q1 : stt (cutD D n c) 15 1 = D 16 := rfl
  have q2 : stt (cutD D n c) 15 2 = cm_u1 (D 17) n c := rfl
  have q3 : stt (cutD D n c) 15 3 = cm_u1 (D 18) n 1 := rfl
  have q4 : stt (cutD D n c) 15 4 = D 19 := rfl
  have q5 : stt (cutD D n c) 15 5 = D 20 := rfl
  have q6 : stt (cutD D n c) 15 6 = D 21 := rfl
  have q0 : stt (cutD D n c) 15 0 = D 15 := rfl
  have hln : 0 ≤ D 17 n ∧ D 17 n ≤ 8 := (s2 n n0 n1).2.1
  constructor
  · unfold rS
    rw [q0, q1, q2, q3, q4, q5, q6]
    refine ⟨fun m m0 m1 => ?_, fun m d m0 m1 d0 d1 => ?_, fun w w0 w1 => ?_, ?_, ?_, ?_, ?_, ?_⟩
    · obtain ⟨h1, h2, h3⟩ := r1 m m0 m1
      rw [p3 m (by omega) (by omega) (by omega) (by omega)]
      by_cases hm : m = n
      · subst hm
        rw [u1_eq, u1_eq]
        exact ⟨h1, p1, p2⟩
      · rw [u1_ne hm, u1_ne hm, p3 (12 + m) (by omega) (by omega) (by omega) (by omega), p3 (24 + m) (by omega) (by omega) (by omega) (by omega)]
        exact ⟨h1, h2, h3⟩
    · have hlm : D 17 m ≤ 8 := (s2 m m0 m1).2.1.2
      by_cases hm : m = n
      · subst hm
        rw [u1_eq] at d1
        rw [p3 (36 + 8 * m + d) (by omega) (by omega) (by omega) (by omega), p3 (132 + 8 * m + d) (by omega) (by omega) (by omega) (by omega)]
        exact r2 m d m0 m1 d0 (by show d < D 17 m; omega)
      · rw [u1_ne hm] at d1
        have d1' : d < D 17 m := d1
        rw [p3 (36 + 8 * m + d) (by omega) (by omega) (by omega) (by omega), p3 (132 + 8 * m + d) (by omega) (by omega) (by omega) (by omega)]
        exact r2 m d m0 m1 d0 d1
    · rw [p3 _ (by omega) (by omega) (by omega) (by omega)]; exact r3 w w0 w1
    · rw [p3 _ (by omega) (by omega) (by omega) (by omega)]; exact r4
    · rw [p3 _ (by omega) (by omega) (by omega) (by omega)]; exact r5
    · rw [p3 _ (by omega) (by omega) (by omega) (by omega)]; exact r6
    · rw [p3 _ (by omega) (by omega) (by omega) (by omega)]; exact r7
    · rw [p3 _ (by omega) (by omega) (by omega) (by omega)]; exact r8
  · unfold wS nS vS
    rw [q0, q1, q2, q3, q4, q6]
    refine ⟨⟨s1, fun m m0 m1 => ?_, s3⟩, ⟨v1, v2, fun m d m0 m1 d0 d1 => ?_, v4, v5, v6, fun m m0 m1 => ?_⟩, hi⟩
    · obtain ⟨t1, t2, t3, t4⟩ := s2 m m0 m1
      by_cases hm : m = n
      · subst hm
        rw [u1_eq, u1_eq]
        exact ⟨t1, by omega, Or.inr rfl, fun z => absurd z hn⟩
      · rw [u1_ne hm, u1_ne hm]; exact ⟨t1, t2, t3, t4⟩
    · refine v3 m d m0 m1 d0 ?_
      show d < D 17 m
      by_cases hm : m = n
      · subst hm
        rw [u1_eq] at d1
        omega
      · rw [u1_ne hm] at d1; exact d1
    · by_cases hm : m = n
      · rw [hm, u1_eq]; intro _ z; omega
      · rw [u1_ne hm]; exact v7 m m0 m1
theorem q_cut (hR : R D t) (X : cm_X) (n c : Int) : MM t D X (fun H => cm_x 125 0 [some (.inr (.inr 0)), some (.inl (n)), some (.inl (c)), none] [] H) (fun H => cm_x 244 0 [some (.inr (.inr 613)), some (.inl (n)), some (.inl (c)), none, none] [] H) := by
  have hc := hR.1
  have hr := hc.2.2.2.2.1
  have hn := hc.2.2.2.2.2.1
  have eh : mHas ((rfD D) 617) n = cHas D n := eq_has hr hn n
  by_cases hh : cHas D n = 0
  · refine MM_f hR ?_ (fun Y => ?_)
    · show cm_x 125 0 [some (.inr (.inr 0)), some (.inl (n)), some (.inl (c)), none] [] (cm_hp D X) = _
      rw [sg_X8_cut_0, ev_has, aft_v, sg_X8_cut_8, if_pos hh, sg_X8_refuse_0, aft_v, sg_X8_cut_32]
    · show cm_x 244 0 [some (.inr (.inr 613)), some (.inl n), some (.inl c), none, none] [] (cm_hp (cm_up D 0 9 (cm_wr (D 0 9 + 1))) Y) = _
      rw [sg_X9_cut_0, ev_mFile, eh, aft_v, sg_X9_cut_10, if_pos hh, sg_X9_refuse_0, aft_v, sg_X9_cut_36]
      rfl
  · obtain ⟨⟨n0, n1⟩, nv⟩ := cHas_1 hh
    have hln : 0 ≤ D 17 n ∧ D 17 n ≤ 8 := (hn.2.1 n n0 n1).2.1
    have w12 : cm_wr (12 + n) = 12 + n := cm_wr_id (by omega) (by omega)
    have w24 : cm_wr (24 + n) = 24 + n := cm_wr_id (by omega) (by omega)
    have wl : cm_wr (D 17 n - 1) = D 17 n - 1 := cm_wr_id (by omega) (by omega)
    by_cases hcc : 0 ≤ c ∧ c < D 17 n
    · obtain ⟨D1, k1, hk, hr1, hw1, hd1⟩ := kp_run hR X
      have e16 := KP_o hR hk (x := 16) (by omega)
      have e17 := KP_o hR hk (x := 17) (by omega)
      have hn1 := hw1.1
      have nv1 : D1 16 n ≠ 0 := by rw [e16]; exact nv
      have f2 : ∀ x : Nat, (x < 15 ∨ 22 ≤ x) → cutD D1 n c x = D1 x := fun x hx => by unfold cutD; rw [up_row (by omega), up_row (by omega)]
      refine ⟨D1 17 n, cutD D1 n c, ?_, fun Y => ?_⟩
      · show cm_x 125 0 [some (.inr (.inr 0)), some (.inl (n)), some (.inl (c)), none] [] (cm_hp D X) = _
        rw [sg_X8_cut_0, ev_has, aft_v, sg_X8_cut_8, if_neg hh, if_neg (by omega), ck_t (by omega), if_pos hcc.2, k1, aft_n, sg_X8_cut_44, ck_t (by omega), ck_t (by omega), ck_t (by omega)]
        rfl
      · obtain ⟨g, m1, m2⟩ := mk_run hR hk f2 Y
        have h617 : cutD D1 n c 617 = D1 617 := f2 617 (by omega)
        have hw617 : (kE (cutD D1 n c) g) 617 = D1 617 := h617
        have eh1 : mHas ((cm_up (cutD D1 n c) 613 0 0) 617) n = cHas D1 n := by
          show mHas (cutD D1 n c 617) n = _
          rw [h617]; exact eq_has hr1 hn1 n
        have hh1 : cHas D1 n ≠ 0 := by unfold cHas; rw [if_pos ⟨n0, n1, nv1⟩]; omega
        have em : D1 617 (12 + n) = D1 17 n := (hr1.1 n n0 n1).2.1
        have em0 : (cm_up (cutD D1 n c) 613 0 0) 617 (12 + n) = D 17 n := by
          show cutD D1 n c 617 (12 + n) = _
          rw [h617, em, e17]
        obtain ⟨f, c1, c2⟩ := ev_mCut (E := kE (cutD D1 n c) g) (X := Y) (n := n) (c := c) (w := D1 17 n) (q := cm_u1 (cm_u1 (D1 617) (12 + n) c) (24 + n) 1) n0 n1 hcc.1 (by omega)
        have hq : cutQ (D1 617) f n c := by
          refine ⟨?_, ?_, fun j j0 j1 j2 j3 => ?_⟩
          · rw [c2 _ (by omega) (by omega), u1_ne (by omega), u1_eq]
          · rw [c2 _ (by omega) (by omega), u1_eq]
          · rw [c2 j j2 j3, u1_ne j1, u1_ne j0]
        obtain ⟨b1, b2⟩ := cut_R hr1 hw1 n0 n1 nv1 hcc.1 (by rw [e17]; exact hcc.2) hq
        refine ⟨cm_ua (kE (cutD D1 n c) g) 617 f, ?_, act_fin hR hk.1 hk.2.1 hk.2.2.1 hk.2.2.2 f2 m2 b1 b2 ?_⟩
        · show cm_x 244 0 [some (.inr (.inr 613)), some (.inl n), some (.inl c), none, none] [] (cm_hp (cutD D1 n c) Y) = _
          rw [sg_X9_cut_0, ev_mFile, eh1, aft_v, sg_X9_cut_10, if_neg hh1, w12, ck_t (by omega), em0, wl, ev_isIn, if_pos (by omega), aft_v, sg_X9_cut_29, if_neg (by omega), m1, aft_n, sg_X9_cut_41, w12, w24, ck_t (by omega), ck_t (by omega), ck_t (by omega)]
          have e2 : cm_up (cm_up (kE (cutD D1 n c) g) 617 (12 + n) c) 617 (24 + n) 1 = cm_ua (kE (cutD D1 n c) g) 617 (cm_u1 (cm_u1 (D1 617) (12 + n) c) (24 + n) 1) := by
            rw [up_to_ua, up_to_ua, ua_ua, ua_same, hw617]
          rw [e2, hw617, em]
          exact c1
        · show D1 15 9 = D 15 9
          rw [KP_o hR hk (by omega)]
    · refine MM_f hR ?_ (fun Y => ?_)
      · show cm_x 125 0 [some (.inr (.inr 0)), some (.inl (n)), some (.inl (c)), none] [] (cm_hp D X) = _
        rw [sg_X8_cut_0, ev_has, aft_v, sg_X8_cut_8, if_neg hh]
        by_cases h0 : c < 0
        · rw [if_pos h0, sg_X8_refuse_0, aft_v, sg_X8_cut_32]
        · rw [if_neg h0, ck_t (by omega), if_neg (by omega), sg_X8_refuse_0, aft_v, sg_X8_cut_32]
      · show cm_x 244 0 [some (.inr (.inr 613)), some (.inl n), some (.inl c), none, none] [] (cm_hp (cm_up D 0 9 (cm_wr (D 0 9 + 1))) Y) = _
        have em : (cm_up (cm_up D 0 9 (cm_wr (D 0 9 + 1))) 613 0 0) 617 (12 + n) = D 17 n := (hr.1 n n0 n1).2.1
        rw [sg_X9_cut_0, ev_mFile, eh, aft_v, sg_X9_cut_10, if_neg hh, w12, ck_t (by omega), em, wl, ev_isIn, if_neg (by omega), aft_v, sg_X9_cut_29, if_pos rfl, sg_X9_refuse_0, aft_v, sg_X9_cut_36]
        rfl
