/-! copy, revert, rename -/
variable {D E : Nat → Int → Int} {X : cm_X} {K B : Int → Int} {h pk t : Int} {r : Int → Int}
theorem cM_le {f f0 fb fm : Int → Int} {n l l' : Int} (hl : l ≤ l') (hq : cM f f0 n l' fb fm) : cM f f0 n l fb fm := ⟨fun c c0 c1 => hq.1 c c0 (by omega), hq.2⟩
/-- the cells of a file are others, it has changed -/
theorem cel_R (hr : rS (stt D 15) r) {n l : Int} (hw : wSx n pk K B (stt D 15)) (n0 : 0 ≤ n) (n1 : n < 12) (hv : D 16 n ≠ 0) (l0 : 0 ≤ l) (l1 : l ≤ 8) {b m f fb fm : Int → Int} (hq : cQ b m (D 19) (D 20) n l fb fm) (hm : cM f (cm_u1 r (12 + n) l) n l fb fm) (hf : ∀ c, 0 ≤ c → c < l → fb c = -1 ∨ ((0 ≤ fb c ∧ fb c < D 15 9) ∧ K (fb c) = 3)) : rS (stt (cm_up (u90 (cm_up D 17 n l) b m) 18 n 1) 15) (cm_u1 f (24 + n) 1) ∧ wS pk K B (stt (cm_up (u90 (cm_up D 17 n l) b m) 18 n 1) 15) := by
  obtain ⟨r1, r2, r3, r4, r5, r6, r7, r8⟩ := hr
  obtain ⟨⟨⟨s1, s2, s3⟩, hi⟩, v1, v2, v3, v4, v5, v6, v7⟩ := hw
  have q1 : stt (cm_up (u90 (cm_up D 17 n l) b m) 18 n 1) 15 1 = D 16 := rfl
  have q2 : stt (cm_up (u90 (cm_up D 17 n l) b m) 18 n 1) 15 2 = cm_u1 (D 17) n l := rfl
  have q3 : stt (cm_up (u90 (cm_up D 17 n l) b m) 18 n 1) 15 3 = cm_u1 (D 18) n 1 := rfl
  have q4 : stt (cm_up (u90 (cm_up D 17 n l) b m) 18 n 1) 15 4 = b := rfl
  have q5 : stt (cm_up (u90 (cm_up D 17 n l) b m) 18 n 1) 15 5 = m := rfl
  have q6 : stt (cm_up (u90 (cm_up D 17 n l) b m) 18 n 1) 15 6 = D 21 := rfl
  have q0 : stt (cm_up (u90 (cm_up D 17 n l) b m) 18 n 1) 15 0 = D 15 := rfl
  obtain ⟨g1, g2⟩ := hq
  obtain ⟨m1, m2⟩ := hm
  constructor
  · unfold rS
    rw [q0, q1, q2, q3, q4, q5, q6]
    refine ⟨fun k k0 k1 => ?_, fun k d k0 k1 d0 d1 => ?_, fun w w0 w1 => ?_, ?_, ?_, ?_, ?_, ?_⟩
    · obtain ⟨h1, h2, h3⟩ := r1 k k0 k1
      rw [u1_ne (by omega), m2 k (by omega), u1_ne (by omega)]
      by_cases hk : k = n
      · subst hk
        rw [u1_eq, u1_eq, u1_eq, u1_ne (by omega), m2 (12 + k) (by omega), u1_eq]
        exact ⟨h1, rfl, rfl⟩
      · rw [u1_ne hk, u1_ne hk, u1_ne (by omega), m2 (12 + k) (by omega), u1_ne (by omega), u1_ne (by omega), m2 (24 + k) (by omega), u1_ne (by omega)]
        exact ⟨h1, h2, h3⟩
    · have hlk : D 17 k ≤ 8 := (s2 k k0 k1).2.1.2
      by_cases hk : k = n
      · subst hk
        rw [u1_eq] at d1
        rw [u1_ne (by omega), u1_ne (by omega), (m1 d d0 d1).1, (m1 d d0 d1).2, (g1 d d0 d1).1, (g1 d d0 d1).2]
        exact ⟨rfl, rfl⟩
      · rw [u1_ne hk] at d1
        have d1' : d < D 17 k := d1
        rw [u1_ne (by omega), u1_ne (by omega), m2 (36 + 8 * k + d) (by omega), m2 (132 + 8 * k + d) (by omega), u1_ne (by omega), u1_ne (by omega), (g2 (k * 8 + d) (by omega)).1, (g2 (k * 8 + d) (by omega)).2]
        exact r2 k d k0 k1 d0 d1
    · rw [u1_ne (by omega), m2 _ (by omega), u1_ne (by omega)]; exact r3 w w0 w1
    · rw [u1_ne (by omega), m2 _ (by omega), u1_ne (by omega)]; exact r4
    · rw [u1_ne (by omega), m2 _ (by omega), u1_ne (by omega)]; exact r5
    · rw [u1_ne (by omega), m2 _ (by omega), u1_ne (by omega)]; exact r6
    · rw [u1_ne (by omega), m2 _ (by omega), u1_ne (by omega)]; exact r7
    · rw [u1_ne (by omega), m2 _ (by omega), u1_ne (by omega)]; exact r8
  · unfold wS nS vS
    rw [q0, q1, q2, q3, q4, q6]
    refine ⟨⟨s1, fun k k0 k1 => ?_, s3⟩, ⟨v1, v2, fun k d k0 k1 d0 d1 => ?_, v4, v5, v6, fun k k0 k1 => ?_⟩, hi⟩
    · obtain ⟨t1, t2, t3, t4⟩ := s2 k k0 k1
      by_cases hk : k = n
      · subst hk
        rw [u1_eq, u1_eq]
        exact ⟨t1, ⟨l0, l1⟩, Or.inr rfl, fun z => absurd z hv⟩
      · rw [u1_ne hk, u1_ne hk]; exact ⟨t1, t2, t3, t4⟩
    · have hlk : D 17 k ≤ 8 := (s2 k k0 k1).2.1.2
      by_cases hk : k = n
      · subst hk
        rw [u1_eq] at d1
        rw [(g1 d d0 d1).1]
        exact hf d d0 d1
      · rw [u1_ne hk] at d1
        have d1' : d < D 17 k := d1
        rw [(g2 (k * 8 + d) (by omega)).1]
        exact v3 k d k0 k1 d0 d1
    · by_cases hk : k = n
      · rw [hk, u1_eq]; intro _ z; omega
      · rw [u1_ne hk]; exact v7 k k0 k1 hk
theorem celD_o {n l : Int} {b m : Int → Int} {x : Nat} (hx : x < 15 ∨ 22 ≤ x) : (cm_up (u90 (cm_up D 17 n l) b m) 18 n 1) x = D x := by
  unfold u90
  rw [up_row (by omega), ua_row (by omega), ua_row (by omega), up_row (by omega)]
theorem bfD_o {n : Int} {x : Nat} (hx : x < 15 ∨ 22 ≤ x) : bfD D n x = D x := by
  unfold bfD
  rw [up_row (by omega), up_row (by omega), up_row (by omega)]
def canG (D : Nat → Int → Int) (n k : Int) : Prop := cHas D n ≠ 0 ∧ (0 ≤ k ∧ k < 12) ∧ D 16 k = 0
theorem ev_canGo (n k : Int) : cm_x 87 0 [some (.inr (.inr 15)), some (.inl (n)), some (.inl (k))] [] (cm_hp D X) = some (.inl (some (.inl (tv (canG D n k)))), cm_hp D X) := by
  rw [sg_X6_canGoTo_0, ev_has, aft_v, sg_X6_canGoTo_5]
  by_cases h1 : cHas D n = 0
  · rw [if_pos h1, tv_f (fun z => z.1 h1)]
  · rw [if_neg h1, ev_isName, aft_v, sg_X6_canGoTo_12]
    by_cases h2 : 0 ≤ k ∧ k < 12
    · rw [if_pos h2, if_neg (by omega), ev_has, aft_v, sg_X6_canGoTo_20]
      by_cases h3 : D 16 k = 0
      · have eh : cHas D k = 0 := by unfold cHas; rw [if_neg (fun z => z.2.2 h3)]
        rw [if_pos eh, tv_t ⟨h1, h2, h3⟩]
      · have eh : cHas D k = 1 := by unfold cHas; rw [if_pos ⟨h2.1, h2.2, h3⟩]
        rw [if_neg (by omega), tv_f (fun z => h3 z.2.2)]
    · rw [if_neg h2, if_pos rfl, tv_f (fun z => h2 z.2.1)]
theorem ev_mCanGo (hr : rS (stt D 15) (E 617)) (hn : nS (stt D 15)) (n k : Int) : cm_x 247 0 [some (.inr (.inr 613)), some (.inl (n)), some (.inl (k))] [] (cm_hp E X) = some (.inl (some (.inl (tv (canG D n k)))), cm_hp E X) := by
  rw [sg_X9_canName_0, ev_mFile, eq_has hr hn, aft_v, sg_X9_canName_5]
  by_cases h1 : cHas D n = 0
  · rw [if_pos h1, tv_f (fun z => z.1 h1)]
  · rw [if_neg h1, ev_mName, aft_v, sg_X9_canName_13]
    by_cases h2 : 0 ≤ k ∧ k < 12
    · have w0 : cm_wr (0 + k) = k := by rw [Int.zero_add]; exact cm_wr_id (by omega) (by omega)
      have r1 : E 617 k = (if D 16 k = 0 then -1 else D 16 k) := (hr.1 k h2.1 h2.2).1
      have s1 : 0 ≤ D 16 k := (hn.2.1 k h2.1 h2.2).1.1
      rw [if_pos h2, if_neg (by omega), w0, ck_t (by omega)]
      by_cases h3 : D 16 k = 0
      · rw [if_pos h3] at r1
        rw [if_pos r1, tv_t ⟨h1, h2, h3⟩]
      · rw [if_neg h3] at r1
        rw [if_neg (by omega), tv_f (fun z => h3 z.2.2)]
    · rw [if_neg h2, if_pos rfl, tv_f (fun z => h2 z.2.1)]
theorem canG_1 {D1 : Nat → Int → Int} (hR : R D t) (hk : KP D D1) {n k : Int} (hg : canG D n k) : canG D1 n k := by
  have e16 := KP_o hR hk (x := 16) (by omega)
  unfold canG cHas
  rw [e16]
  exact hg
theorem q_copy (hR : R D t) (X : cm_X) (n k : Int) : MM t D X (fun H => cm_x 128 0 [some (.inr (.inr 0)), some (.inl (n)), some (.inl (k))] [] H) (fun H => cm_x 250 0 [some (.inr (.inr 613)), some (.inl (n)), some (.inl (k))] [] H) := by
  have hc := hR.1
  have hr := hc.2.2.2.2.1
  have hn := hc.2.2.2.2.2.1
  by_cases hg : canG D n k
  · obtain ⟨D1, k1, hk, hr1, hw1, hd1⟩ := kp_run hR X
    have hg1 := canG_1 hR hk hg
    have hn1 := hw1.1
    obtain ⟨hh1, ⟨t0, t1⟩, tz⟩ := hg1
    obtain ⟨⟨n0, n1⟩, nv⟩ := cHas_1 hh1
    have hne : n ≠ k := fun z => nv (by rw [z]; exact tz)
    have hln : 0 ≤ D1 17 n ∧ D1 17 n ≤ 8 := (hn1.2.1 n n0 n1).2.1
    have hfv := (frV_f t0 t1 tz).1
    obtain ⟨b1, b2⟩ := bf_R hr1 hw1 t0 t1 tz
    obtain ⟨b, m, c1, c2⟩ := ev_copyCells (D := bfD D1 k) (X := X) n0 n1 t0 t1 hne hln
    have f2 : ∀ x : Nat, (x < 15 ∨ 22 ≤ x) → (cm_up (u90 (cm_up (bfD D1 k) 17 k (bfD D1 k 17 n)) b m) 18 k 1) x = D1 x := fun x hx => by rw [celD_o hx, bfD_o hx]
    generalize hD2 : cm_up (u90 (cm_up (bfD D1 k) 17 k (bfD D1 k 17 n)) b m) 18 k 1 = D2 at f2
    have e16 : D2 16 k = frV D1 := by
      rw [← hD2]
      show cm_u1 (D1 16) k (frV D1) k = _
      rw [u1_eq]
    refine ⟨frV D1, D2, ?_, fun Y => ?_⟩
    · show cm_x 128 0 [some (.inr (.inr 0)), some (.inl (n)), some (.inl (k))] [] (cm_hp D X) = _
      rw [sg_X8_copy_0, ev_canGo, aft_v, sg_X8_copy_9, tv_t hg, if_neg (by omega), k1, aft_n, sg_X8_copy_28, sg_X6_copyFile_0, ev_begin t0 t1 tz, aft_n, sg_X6_copyFile_5, c1, aft_n, sg_X6_copyFile_11, ck_t (by omega), hD2, aft_n, sg_X8_copy_37, ck_t (by omega), e16]
    · obtain ⟨g, m1, m2⟩ := mk_run hR hk f2 Y
      have h617 : D2 617 = D1 617 := f2 617 (by omega)
      have hw617 : (kE D2 g) 617 = D1 617 := h617
      have hrE : rS (stt D1 15) ((cm_up D2 613 0 0) 617) := by
        show rS (stt D1 15) (D2 617)
        rw [h617]; exact hr1
      obtain ⟨f, l1, l2⟩ := ev_likeCells (E := cm_ua (kE D2 g) 617 (bfM (D1 617) k (frV D1))) (X := Y) n0 n1 t0 t1 hne
      rw [ua_same] at l2
      have hbn : bfM (D1 617) k (frV D1) (12 + n) = D1 17 n := by
        unfold bfM
        rw [u1_ne (by omega), u1_ne (by omega), u1_ne (by omega), u1_ne (by omega)]
        exact (hr1.1 n n0 n1).2.1
      rw [hbn] at l2
      have hbf : ∀ c, 0 ≤ c → c < D1 17 n → bfM (D1 617) k (frV D1) (36 + 8 * n + c) = D1 19 (n * 8 + c) ∧ bfM (D1 617) k (frV D1) (132 + 8 * n + c) = D1 20 (n * 8 + c) := fun c c0 c1 => by
        unfold bfM
        rw [u1_ne (by omega), u1_ne (by omega), u1_ne (by omega), u1_ne (by omega), u1_ne (by omega), u1_ne (by omega), u1_ne (by omega), u1_ne (by omega)]
        exact hr1.2.1 n c n0 n1 c0 c1
      have l3 : cM f (cm_u1 (bfM (D1 617) k (frV D1)) (12 + k) (D1 17 n)) k (D1 17 n) (fun c => D1 19 (n * 8 + c)) (fun c => D1 20 (n * 8 + c)) := by
        refine ⟨fun c c0 c1 => ?_, l2.2⟩
        obtain ⟨z1, z2⟩ := l2.1 c c0 (by omega)
        obtain ⟨y1, y2⟩ := hbf c c0 c1
        exact ⟨z1.trans y1, z2.trans y2⟩
      obtain ⟨e1, e2⟩ := cel_R b1 (n := k) (l := D1 17 n) b2 t0 t1 (by show cm_u1 (D1 16) k (frV D1) k ≠ 0; rw [u1_eq]; omega) hln.1 hln.2 c2 l3 (fun c c0 c1 => hw1.2.1.2.2.1 n c n0 n1 c0 c1)
      have hD2' : cm_up (u90 (cm_up (bfD D1 k) 17 k (D1 17 n)) b m) 18 k 1 = D2 := hD2
      rw [hD2'] at e1 e2
      have w24 : cm_wr (24 + k) = 24 + k := cm_wr_id (by omega) (by omega)
      have w0 : cm_wr (0 + k) = k := by rw [Int.zero_add]; exact cm_wr_id (by omega) (by omega)
      have hfk : cm_u1 f (24 + k) 1 k = frV D1 := by
        have : cm_u1 f (24 + k) 1 k = (if D2 16 k = 0 then -1 else D2 16 k) := (e1.1 k t0 t1).1
        rw [this, e16, if_neg (by omega)]
      refine ⟨cm_ua (kE D2 g) 617 (cm_u1 f (24 + k) 1), ?_, act_fin hR hk.1 hk.2.1 hk.2.2.1 hk.2.2.2 f2 m2 e1 e2 ?_⟩
      · show cm_x 250 0 [some (.inr (.inr 613)), some (.inl n), some (.inl k)] [] (cm_hp D2 Y) = _
        rw [sg_X9_copy_0, ev_mCanGo hrE hn1, aft_v, sg_X9_copy_11, tv_t (canG_1 hR hk hg), if_neg (by omega), m1, aft_n, sg_X9_copy_23, ev_mBegin (E := kE D2 g) (D := D1) (fun w hw => by rw [hw617]; exact eq_nm hr1 hn1 hw) t0 t1 tz, aft_n, hw617, sg_X9_copy_28, l1, aft_n, ua_ua, sg_X9_copy_34, ua_same, w24, ck_t (by omega), w0, ck_t (by omega), hfk, up_to_ua, ua_ua, ua_same]
      · rw [← hD2]
        show D1 15 9 = D 15 9
        rw [KP_o hR hk (by omega)]
  · refine MM_f hR ?_ (fun Y => ?_)
    · show cm_x 128 0 [some (.inr (.inr 0)), some (.inl (n)), some (.inl (k))] [] (cm_hp D X) = _
      rw [sg_X8_copy_0, ev_canGo, aft_v, sg_X8_copy_9, tv_f hg, if_pos rfl, sg_X8_refuse_0, aft_v, sg_X8_copy_16]
    · show cm_x 250 0 [some (.inr (.inr 613)), some (.inl n), some (.inl k)] [] (cm_hp (cm_up D 0 9 (cm_wr (D 0 9 + 1))) Y) = _
      rw [sg_X9_copy_0, ev_mCanGo (D := D) (E := cm_up (cm_up D 0 9 (cm_wr (D 0 9 + 1))) 613 0 0) hr hn, aft_v, sg_X9_copy_11, tv_f hg, if_pos rfl, sg_X9_refuse_0, aft_v, sg_X9_copy_18]
      rfl
