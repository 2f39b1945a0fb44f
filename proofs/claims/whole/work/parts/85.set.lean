/-! a cell is set; acts put together -/
variable {D E : Nat → Int → Int} {X : cm_X} {K B : Int → Int} {h pk t : Int} {r : Int → Int}
theorem ev_put {n c b v : Int} (n0 : 0 ≤ n) (n1 : n < 12) (c0 : 0 ≤ c) (c1 : c < 8) : cm_x 69 0 [some (.inr (.inr 15)), some (.inl (n)), some (.inl (c)), some (.inl (b)), some (.inl (v))] [] (cm_hp D X) = some (.inl none, cm_hp (cm_up (cm_up D 19 (n * 8 + c) b) 20 (n * 8 + c) v) X) := by
  simp (disch := omega) only [sg_X6_putCell_0, cm_wr_id, ck_t]
def setD (D : Nat → Int → Int) (n c v : Int) : Nat → Int → Int := cm_up (cm_up (cm_up (cm_up D 19 (n * 8 + c) (-1)) 20 (n * 8 + c) v) 17 n (cm_mx (D 17 n) (c + 1))) 18 n 1
def setM (r : Int → Int) (n c v : Int) : Int → Int := cm_u1 (cm_u1 (cm_u1 (cm_u1 r (12 + n) (cm_mx (r (12 + n)) (c + 1))) (36 + 8 * n + c) (-1)) (132 + 8 * n + c) v) (24 + n) 1
def begD (D : Nat → Int → Int) (n : Int) : Nat → Int → Int := if D 16 n = 0 then bfD D n else D
theorem ev_setCell {n c v : Int} (n0 : 0 ≤ n) (n1 : n < 12) (c0 : 0 ≤ c) (c1 : c < 8) : cm_x 83 0 [some (.inr (.inr 15)), some (.inl (n)), some (.inl (c)), some (.inl (v))] [] (cm_hp D X) = some (.inl none, cm_hp (setD (begD D n) n c v) X) := by
  have key : ∀ F : Nat → Int → Int, cm_x 83 13 [some (.inr (.inr 15)), some (.inl (n)), some (.inl (c)), some (.inl (v))] [] (cm_hp F X) = some (.inl none, cm_hp (setD F n c v) X) := fun F => by
    rw [sg_X6_setCell_13, ev_put n0 n1 c0 c1, aft_n, sg_X6_setCell_21, cm_wr_id (by omega) (by omega), ck_t (by omega), ck_t (by omega), ck_t (by omega)]
    rfl
  rw [sg_X6_setCell_0, ev_has, aft_v, sg_X6_setCell_5]
  unfold begD
  by_cases hz : D 16 n = 0
  · have eh : cHas D n = 0 := by unfold cHas; rw [if_neg (fun z => z.2.2 hz)]
    rw [eh, if_pos rfl, if_pos hz, ev_begin n0 n1 hz, aft_n, key]
  · have eh : cHas D n = 1 := by unfold cHas; rw [if_pos ⟨n0, n1, hz⟩]
    rw [eh, if_neg (by omega), if_neg hz, key]
def begM (r : Int → Int) (n f : Int) : Int → Int := if r n = -1 then bfM r n f else r
theorem ua_ua {F : Nat → Int → Int} {a : Nat} {g g' : Int → Int} : cm_ua (cm_ua F a g) a g' = cm_ua F a g' := by
  funext b
  unfold cm_ua
  by_cases hb : b = a
  · rw [if_pos hb, if_pos hb]
  · rw [if_neg hb, if_neg hb, if_neg hb]
theorem ua_id {F : Nat → Int → Int} {a : Nat} : cm_ua F a (F a) = F := by
  funext b
  unfold cm_ua
  by_cases hb : b = a
  · rw [if_pos hb, hb]
  · rw [if_neg hb]
theorem up_to_ua {F : Nat → Int → Int} {a : Nat} {i v : Int} : cm_up F a i v = cm_ua F a (cm_u1 (F a) i v) := rfl
theorem ev_setNow (he : ∀ v, 1 ≤ v → mNm (E 617) v = cNm D v) {n c v : Int} (n0 : 0 ≤ n) (n1 : n < 12) (c0 : 0 ≤ c) (c1 : c < 8) (hz : E 617 n = -1 → D 16 n = 0) : cm_x 242 0 [some (.inr (.inr 613)), some (.inl (n)), some (.inl (c)), some (.inl (v))] [] (cm_hp E X) = some (.inl none, cm_hp (cm_ua E 617 (setM (begM (E 617) n (frV D)) n c v)) X) := by
  have key : ∀ F : Nat → Int → Int, cm_x 242 17 [some (.inr (.inr 613)), some (.inl (n)), some (.inl (c)), some (.inl (v))] [] (cm_hp F X) = some (.inl none, cm_hp (cm_ua F 617 (setM (F 617) n c v)) X) := fun F => by
    simp (disch := omega) only [sg_X9_setNow_17, cm_wr_id, ck_t]
    simp only [up_to_ua, ua_ua, ua_same]
    rfl
  have e0 : cm_wr (0 + n) = n := by rw [Int.zero_add]; exact cm_wr_id (by omega) (by omega)
  rw [sg_X9_setNow_0, e0, ck_t (by omega)]
  unfold begM
  by_cases hq : E 617 n = -1
  · rw [if_pos hq, if_pos hq, ev_mBegin he n0 n1 (hz hq), aft_n, key, ua_ua, ua_same]
  · rw [if_neg hq, if_neg hq, key]
theorem set_R (hr : rS (stt D 15) r) {n c : Int} (v : Int) (hw : wSx n pk K B (stt D 15)) (n0 : 0 ≤ n) (n1 : n < 12) (c0 : 0 ≤ c) (c1 : c < 8) (hn : D 16 n ≠ 0) (hl : c ≤ D 17 n) : rS (stt (setD D n c v) 15) (setM r n c v) ∧ wS pk K B (stt (setD D n c v) 15) := by
  obtain ⟨r1, r2, r3, r4, r5, r6, r7, r8⟩ := hr
  obtain ⟨⟨⟨s1, s2, s3⟩, hi⟩, v1, v2, v3, v4, v5, v6, v7⟩ := hw
  have q1 : stt (setD D n c v) 15 1 = D 16 := rfl
  have q2 : stt (setD D n c v) 15 2 = cm_u1 (D 17) n (cm_mx (D 17 n) (c + 1)) := rfl
  have q3 : stt (setD D n c v) 15 3 = cm_u1 (D 18) n 1 := rfl
  have q4 : stt (setD D n c v) 15 4 = cm_u1 (D 19) (n * 8 + c) (-1) := rfl
  have q5 : stt (setD D n c v) 15 5 = cm_u1 (D 20) (n * 8 + c) v := rfl
  have q6 : stt (setD D n c v) 15 6 = D 21 := rfl
  have q0 : stt (setD D n c v) 15 0 = D 15 := rfl
  have hln : 0 ≤ D 17 n ∧ D 17 n ≤ 8 := (s2 n n0 n1).2.1
  have em : r (12 + n) = D 17 n := (r1 n n0 n1).2.1
  have hmx : cm_mx (D 17 n) (c + 1) = (if D 17 n < c + 1 then c + 1 else D 17 n) := rfl
  constructor
  · unfold rS
    rw [q0, q1, q2, q3, q4, q5, q6]
    unfold setM
    refine ⟨fun m m0 m1 => ?_, fun m d m0 m1 d0 d1 => ?_, fun w w0 w1 => ?_, ?_, ?_, ?_, ?_, ?_⟩
    · obtain ⟨h1, h2, h3⟩ := r1 m m0 m1
      by_cases hm : m = n
      · subst hm
        simp (disch := omega) only [u1_ne, u1_eq]
        refine ⟨h1, ?_, trivial⟩
        rw [em]
      · simp (disch := omega) only [u1_ne]
        exact ⟨h1, h2, h3⟩
    · have hlm : D 17 m ≤ 8 := (s2 m m0 m1).2.1.2
      by_cases hm : m = n
      · subst hm
        rw [u1_eq] at d1
        have d8 : d < 8 := by omega
        by_cases hd : d = c
        · subst hd
          simp (disch := omega) only [u1_ne, u1_eq, and_self]
        · have hdl : d < D 17 m := by omega
          simp (disch := omega) only [u1_ne]
          exact r2 m d m0 m1 d0 hdl
      · rw [u1_ne hm] at d1
        have d1' : d < D 17 m := d1
        simp (disch := omega) only [u1_ne]
        exact r2 m d m0 m1 d0 d1
    · simp (disch := omega) only [u1_ne]
      exact r3 w w0 w1
    · simp (disch := omega) only [u1_ne]; exact r4
    · simp (disch := omega) only [u1_ne]; exact r5
    · simp (disch := omega) only [u1_ne]; exact r6
    · simp (disch := omega) only [u1_ne]; exact r7
    · simp (disch := omega) only [u1_ne]; exact r8
  · unfold wS nS vS
    rw [q0, q1, q2, q3, q4, q6]
    refine ⟨⟨s1, fun m m0 m1 => ?_, s3⟩, ⟨v1, v2, fun m d m0 m1 d0 d1 => ?_, v4, v5, v6, fun m m0 m1 => ?_⟩, hi⟩
    · obtain ⟨t1, t2, t3, t4⟩ := s2 m m0 m1
      by_cases hm : m = n
      · subst hm
        rw [u1_eq, u1_eq]
        exact ⟨t1, by omega, Or.inr rfl, fun z => absurd z hn⟩
      · rw [u1_ne hm, u1_ne hm]; exact ⟨t1, t2, t3, t4⟩
    · have hlm : D 17 m ≤ 8 := (s2 m m0 m1).2.1.2
      by_cases hm : m = n
      · subst hm
        rw [u1_eq] at d1
        by_cases hd : d = c
        · subst hd
          rw [u1_eq]; exact Or.inl rfl
        · have hdl : d < D 17 m := by omega
          rw [u1_ne (by omega)]
          exact v3 m d m0 m1 d0 hdl
      · rw [u1_ne hm] at d1
        have d1' : d < D 17 m := d1
        have : m * 8 + d ≠ n * 8 + c := by omega
        rw [u1_ne this]
        exact v3 m d m0 m1 d0 d1
    · by_cases hm : m = n
      · subst hm
        rw [u1_eq]
        intro _ z
        omega
      · rw [u1_ne hm]; exact v7 m m0 m1 hm
/-- an act that changes what is in mind alone: the relation behind it -/
theorem act_fin (hR : R D t) {D1 D2 : Nat → Int → Int} (k2 : agS (stt D1 (adr (D 26 1))) (stt D 15)) (k3 : D1 26 1 = (if D 26 1 + 1 < 40 then D 26 1 + 1 else 0)) (k4 : D1 26 2 = (if D 26 2 < 40 then D 26 2 + 1 else 40)) (k5 : ∀ x : Nat, x ≠ 26 → (x < adr (D 26 1) ∨ adr (D 26 1) + 7 ≤ x) → D1 x = D x) (f2 : ∀ x : Nat, (x < 15 ∨ 22 ≤ x) → D2 x = D1 x) {g r' : Int → Int} {c : Int} (hg : ∀ j, 0 ≤ j → j < 246 * (if D2 613 29 < 40 then D2 613 29 + 1 else 40) → g j = kpP (D2 626) (D2 617) (D2 613 29) j) (hr : rS (stt D2 15) r') (hw : wS (D 9 1) (D 619) (D 620) (stt D2 15)) (h9 : D2 15 9 = D 15 9) : R (cm_ua (cm_up (u26 (cm_up D2 613 0 c) g) 613 29 (if D2 613 29 < 40 then D2 613 29 + 1 else 40)) 617 r') (t + 400) ∧ (cm_ua (cm_up (u26 (cm_up D2 613 0 c) g) 613 29 (if D2 613 29 < 40 then D2 613 29 + 1 else 40)) 617 r') 100000 = D 100000 := by
  have hnx := hR.2.1.1.1
  have hra : 28 ≤ adr (D 26 1) ∧ adr (D 26 1) + 7 ≤ 308 := by unfold adr; omega
  have e29 : D2 613 29 = D 26 2 := by rw [f2 613 (by omega), k5 613 (by omega) (by omega)]; exact hR.2.1.2
  have hfr : ∀ x : Nat, (x < 15 ∨ 22 ≤ x) → x ≠ 26 → (x < adr (D 26 1) ∨ adr (D 26 1) + 7 ≤ x) → D2 x = D x := fun x a b c => by rw [f2 x a, k5 x b c]
  generalize hE : (cm_ua (cm_up (u26 (cm_up D2 613 0 c) g) 613 29 (if D2 613 29 < 40 then D2 613 29 + 1 else 40)) 617 r') = E
  have hEo : ∀ x : Nat, x ≠ 613 → x ≠ 617 → x ≠ 626 → E x = D2 x := fun x a b c => by
    rw [← hE, ua_row b, up_row a]
    unfold u26
    rw [ua_row c, up_row a]
  have hE6 : ∀ j : Int, j ≠ 0 → j ≠ 29 → E 613 j = D2 613 j := fun j a b => by
    rw [← hE]
    show (if j = 29 then _ else (if j = 0 then c else D2 613 j)) = D2 613 j
    rw [if_neg b, if_neg a]
  have hE29 : E 613 29 = (if D2 613 29 < 40 then D2 613 29 + 1 else 40) := by rw [← hE]; rfl
  have hE17 : E 617 = r' := by rw [← hE]; rfl
  have hE26 : E 626 = g := by rw [← hE]; rfl
  have hst : agS (stt E 15) (stt D2 15) := agS_of fun j hj => hEo _ (by omega) (by omega) (by omega)
  have h2 : ∀ x : Nat, (x < 15 ∨ 22 ≤ x) → x ≠ 26 → (x < adr (D 26 1) ∨ adr (D 26 1) + 7 ≤ x) → x ≠ 613 → x ≠ 617 → x ≠ 626 → E x = D x := fun x a b c d e f => by rw [hEo x d e f, hfr x a b c]
  have h6 : ∀ j : Int, j ≠ 0 → j ≠ 29 → E 613 j = D 613 j := fun j a b => by rw [hE6 j a b, f2 613 (by omega), k5 613 (by omega) (by omega)]
  have hc : Rc E := by
    refine Rc_mut hR.1 (fun a ha => h2 a (by omega) (by omega) (by omega) (by omega) (by omega) (by omega)) (h6 21 (by omega) (by omega)) ?_ ?_ (wS_ag hst hw)
    · rw [hEo 15 (by omega) (by omega) (by omega)]; exact h9
    · rw [hE17]; exact rS_ag hst hw.1 hr
  refine ⟨act_R hR hc ?_ (fun q q0 q1 hq => ?_) ?_ ?_ ?_ (fun j j0 j1 => ?_) ?_ ?_ ⟨fun a ha => ?_, ?_, ?_⟩, ?_⟩
  · refine agS_tr (agS_of fun j hj => ?_) k2
    show E (adr (D 26 1) + j) = D1 (adr (D 26 1) + j)
    rw [hEo _ (by omega) (by omega) (by omega), f2 _ (by omega)]
  · refine agS_of fun j hj => ?_
    have hqa : adr q + 7 ≤ adr (D 26 1) ∨ adr (D 26 1) + 7 ≤ adr q := by unfold adr; omega
    have hqb : 28 ≤ adr q ∧ adr q + 7 ≤ 308 := by unfold adr; omega
    exact h2 _ (by omega) (by omega) (by omega) (by omega) (by omega) (by omega)
  · rw [hEo 26 (by omega) (by omega) (by omega), f2 26 (by omega)]; exact k3
  · rw [hEo 26 (by omega) (by omega) (by omega), f2 26 (by omega)]; exact k4
  · rw [hE29, e29, hEo 26 (by omega) (by omega) (by omega), f2 26 (by omega)]; exact k4.symm
  · rw [hE26, hg j j0 (by rw [e29]; exact j1), e29, hfr 626 (by omega) (by omega) (by omega), hfr 617 (by omega) (by omega) (by omega)]
  · rw [h2 619 (by omega) (by omega) (by omega) (by omega) (by omega) (by omega), h2 620 (by omega) (by omega) (by omega) (by omega) (by omega) (by omega)]
    exact eqB_rf
  · rw [hEo 15 (by omega) (by omega) (by omega), h9]; exact Int.le_refl _
  · unfold oRow at ha
    exact h2 a (by omega) (by omega) (by omega) (by omega) (by omega) (by omega)
  · have e9 := h2 9 (by omega) (by omega) (by omega) (by omega) (by omega) (by omega)
    rw [e9]
    exact ⟨rfl, rfl, rfl⟩
  · exact ⟨h6 9 (by omega) (by omega), h6 18 (by omega) (by omega), h6 33 (by omega) (by omega), h6 34 (by omega) (by omega)⟩
  · exact h2 100000 (by omega) (by omega) (by omega) (by omega) (by omega) (by omega)
