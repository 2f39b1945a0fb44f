/-! cells are copied, taken from an entry: both -/
variable {D E : Nat → Int → Int} {X : cm_X} {K B : Int → Int} {h pk t : Int} {r : Int → Int}
/-- the cells of a file, in the class's rows, in the model's -/
def cQ (b m b0 m0 : Int → Int) (n l : Int) (fb fm : Int → Int) : Prop := (∀ c, 0 ≤ c → c < l → b (n * 8 + c) = fb c ∧ m (n * 8 + c) = fm c) ∧ ∀ j, (j < n * 8 ∨ n * 8 + 8 ≤ j) → b j = b0 j ∧ m j = m0 j
def cM (f f0 : Int → Int) (n l : Int) (fb fm : Int → Int) : Prop := (∀ c, 0 ≤ c → c < l → f (36 + 8 * n + c) = fb c ∧ f (132 + 8 * n + c) = fm c) ∧ ∀ j, (j < 36 + 8 * n ∨ (44 + 8 * n ≤ j ∧ j < 132 + 8 * n) ∨ 140 + 8 * n ≤ j) → f j = f0 j
abbrev u90 (D : Nat → Int → Int) (b m : Int → Int) : Nat → Int → Int := cm_ua (cm_ua D 19 b) 20 m
theorem u90_self : u90 D (D 19) (D 20) = D := by
  unfold u90
  rw [ua_id]
  exact ua_id
theorem u90_up {b m : Int → Int} {i v w : Int} : cm_up (cm_up (u90 D b m) 19 i v) 20 i w = u90 D (cm_u1 b i v) (cm_u1 m i w) := by
  funext a j
  unfold u90
  simp only [up_at, ua_at, u1_at]
  by_cases h1 : a = 20
  · subst h1
    simp
  · by_cases h2 : a = 19
    · subst h2
      simp
    · simp [h1, h2]
theorem ev_copyCells {n to : Int} (n0 : 0 ≤ n) (n1 : n < 12) (t0 : 0 ≤ to) (t1 : to < 12) (hne : n ≠ to) (hl : 0 ≤ D 17 n ∧ D 17 n ≤ 8) : ∃ b m, cm_x 90 0 [some (.inr (.inr 15)), some (.inl (n)), some (.inl (to)), none] [] (cm_hp D X) = some (.inl none, cm_hp (u90 (cm_up D 17 to (D 17 n)) b m) X) ∧ cQ b m (D 19) (D 20) to (D 17 n) (fun c => D 19 (n * 8 + c)) (fun c => D 20 (n * 8 + c)) := by
  have e17 : ∀ b m, u90 (cm_up D 17 to (D 17 n)) b m 17 n = D 17 n := fun b m => by
    show cm_u1 (D 17) to (D 17 n) n = _
    rw [u1_ne hne]
  obtain ⟨⟨b, m⟩, L, P1, P2⟩ := lp_inv (X := fun c (s : (Int → Int) × (Int → Int)) => cm_x 90 14 [some (.inr (.inr 15)), some (.inl (n)), some (.inl (to)), some (.inl (c))] [] (cm_hp (u90 (cm_up D 17 to (D 17 n)) s.1 s.2) X)) (P := fun c s => (∀ d, 0 ≤ d → d < c → s.1 (to * 8 + d) = D 19 (n * 8 + d) ∧ s.2 (to * 8 + d) = D 20 (n * 8 + d)) ∧ ∀ j, (j < to * 8 ∨ to * 8 + 8 ≤ j) → s.1 j = D 19 j ∧ s.2 j = D 20 j) (lo := 0) (hi := D 17 n) (fun c s c0 c1 hP => by
    obtain ⟨b, m⟩ := s
    have hb : b (n * 8 + c) = D 19 (n * 8 + c) ∧ m (n * 8 + c) = D 20 (n * 8 + c) := hP.2 _ (by omega)
    refine ⟨(cm_u1 b (to * 8 + c) (D 19 (n * 8 + c)), cm_u1 m (to * 8 + c) (D 20 (n * 8 + c))), ?_, fun d d0 d1 => ?_, fun j hj => ?_⟩
    · show cm_x 90 14 [some (.inr (.inr 15)), some (.inl (n)), some (.inl (to)), some (.inl (c))] [] (cm_hp (u90 (cm_up D 17 to (D 17 n)) b m) X) = cm_x 90 14 [some (.inr (.inr 15)), some (.inl (n)), some (.inl (to)), some (.inl (c + 1))] [] (cm_hp (u90 (cm_up D 17 to (D 17 n)) (cm_u1 b (to * 8 + c) (D 19 (n * 8 + c))) (cm_u1 m (to * 8 + c) (D 20 (n * 8 + c)))) X)
      have e : cm_wr (c + 1) = c + 1 := cm_wr_id (by omega) (by omega)
      have en : cm_x 72 0 [some (.inr (.inr 15)), some (.inl (n)), some (.inl (c))] [] (cm_hp (u90 (cm_up D 17 to (D 17 n)) b m) X) = some (.inl (some (.inl (m (n * 8 + c)))), cm_hp (u90 (cm_up D 17 to (D 17 n)) b m) X) := by
        rw [sg_X6_numberOf_0]
        simp (disch := omega) only [cm_wr_id, ck_t]
        rfl
      have eb : cm_x 71 0 [some (.inr (.inr 15)), some (.inl (n)), some (.inl (c))] [] (cm_hp (u90 (cm_up D 17 to (D 17 n)) b m) X) = some (.inl (some (.inl (b (n * 8 + c)))), cm_hp (u90 (cm_up D 17 to (D 17 n)) b m) X) := ev_blk n0 n1 c0 (by omega)
      rw [sg_X6_copyCells_14, ck_t (by omega), e17, if_pos c1, eb, aft_v, sg_X6_copyCells_33, en, aft_v, sg_X6_copyCells_39, ev_put t0 t1 c0 (by omega), aft_n, sg_X6_copyCells_42, e, u90_up, hb.1, hb.2]
    · by_cases hd : d = c
      · subst hd
        show cm_u1 b (to * 8 + d) _ (to * 8 + d) = _ ∧ cm_u1 m (to * 8 + d) _ (to * 8 + d) = _
        rw [u1_eq, u1_eq]
        exact ⟨rfl, rfl⟩
      · show cm_u1 b (to * 8 + c) _ (to * 8 + d) = _ ∧ cm_u1 m (to * 8 + c) _ (to * 8 + d) = _
        rw [u1_ne (by omega), u1_ne (by omega)]
        exact hP.1 d d0 (by omega)
    · show cm_u1 b (to * 8 + c) _ j = _ ∧ cm_u1 m (to * 8 + c) _ j = _
      rw [u1_ne (by omega), u1_ne (by omega)]
      exact hP.2 j hj) (D 19, D 20) hl.1 ⟨fun d d0 d1 => by omega, fun _ _ => ⟨rfl, rfl⟩⟩
  refine ⟨b, m, ?_, P1, P2⟩
  have es : u90 (cm_up D 17 to (D 17 n)) (D 19) (D 20) = cm_up D 17 to (D 17 n) := u90_self (D := cm_up D 17 to (D 17 n))
  have L : cm_x 90 14 [some (.inr (.inr 15)), some (.inl (n)), some (.inl (to)), some (.inl (0))] [] (cm_hp (cm_up D 17 to (D 17 n)) X) = cm_x 90 14 [some (.inr (.inr 15)), some (.inl (n)), some (.inl (to)), some (.inl (D 17 n))] [] (cm_hp (u90 (cm_up D 17 to (D 17 n)) b m) X) := by
    have := L
    simp only [es] at this
    exact this
  rw [sg_X6_copyCells_0, ck_t (by omega), ck_t (by omega), L, sg_X6_copyCells_14, ck_t (by omega), e17, if_neg (by omega)]
theorem ev_likeCells {n to : Int} (n0 : 0 ≤ n) (n1 : n < 12) (t0 : 0 ≤ to) (t1 : to < 12) (hne : n ≠ to) : ∃ f, cm_x 248 0 [some (.inr (.inr 613)), some (.inl (n)), some (.inl (to)), none] [] (cm_hp E X) = some (.inl none, cm_hp (cm_ua E 617 f) X) ∧ cM f (cm_u1 (E 617) (12 + to) (E 617 (12 + n))) to 8 (fun c => E 617 (36 + 8 * n + c)) (fun c => E 617 (132 + 8 * n + c)) := by
  have w1 : cm_wr (12 + n) = 12 + n := cm_wr_id (by omega) (by omega)
  have w2 : cm_wr (12 + to) = 12 + to := cm_wr_id (by omega) (by omega)
  obtain ⟨f, L, P1, P2⟩ := lp_inv (X := fun c f => cm_x 248 20 [some (.inr (.inr 613)), some (.inl (n)), some (.inl (to)), some (.inl (c))] [] (cm_hp (cm_ua E 617 f) X)) (P := fun c f => (∀ d, 0 ≤ d → d < c → f (36 + 8 * to + d) = E 617 (36 + 8 * n + d) ∧ f (132 + 8 * to + d) = E 617 (132 + 8 * n + d)) ∧ ∀ j, (j < 36 + 8 * to ∨ (44 + 8 * to ≤ j ∧ j < 132 + 8 * to) ∨ 140 + 8 * to ≤ j) → f j = cm_u1 (E 617) (12 + to) (E 617 (12 + n)) j) (lo := 0) (hi := 8) (fun c f c0 c1 hP => by
    have h1 : f (36 + 8 * n + c) = E 617 (36 + 8 * n + c) := by rw [hP.2 _ (by omega), u1_ne (by omega)]
    have h2 : f (132 + 8 * n + c) = E 617 (132 + 8 * n + c) := by rw [hP.2 _ (by omega), u1_ne (by omega)]
    refine ⟨cm_u1 (cm_u1 f (36 + 8 * to + c) (E 617 (36 + 8 * n + c))) (132 + 8 * to + c) (E 617 (132 + 8 * n + c)), ?_, fun d d0 d1 => ?_, fun j hj => ?_⟩
    · show cm_x 248 20 [some (.inr (.inr 613)), some (.inl (n)), some (.inl (to)), some (.inl (c))] [] (cm_hp (cm_ua E 617 f) X) = cm_x 248 20 [some (.inr (.inr 613)), some (.inl (n)), some (.inl (to)), some (.inl (c + 1))] [] (cm_hp (cm_ua E 617 (cm_u1 (cm_u1 f (36 + 8 * to + c) (E 617 (36 + 8 * n + c))) (132 + 8 * to + c) (E 617 (132 + 8 * n + c)))) X)
      have q1 : cm_ua E 617 f 617 = f := ua_same
      have h3 : cm_u1 f (36 + 8 * to + c) (E 617 (36 + 8 * n + c)) (132 + 8 * n + c) = E 617 (132 + 8 * n + c) := by rw [u1_ne (by omega), h2]
      rw [sg_X9_likeCells_20, if_pos c1, q1]
      simp (disch := omega) only [cm_wr_id, ck_t]
      rw [h1, h3]
      simp only [up_to_ua, ua_ua, ua_same]
    · by_cases hd : d = c
      · subst hd
        rw [u1_eq, u1_ne (by omega), u1_eq]
        exact ⟨rfl, rfl⟩
      · rw [u1_ne (by omega), u1_ne (by omega), u1_ne (by omega), u1_ne (by omega)]
        exact hP.1 d d0 (by omega)
    · rw [u1_ne (by omega), u1_ne (by omega)]
      exact hP.2 j hj) (cm_u1 (E 617) (12 + to) (E 617 (12 + n))) (by omega) ⟨fun d d0 d1 => by omega, fun _ _ => rfl⟩
  refine ⟨f, ?_, P1, P2⟩
  have L : cm_x 248 20 [some (.inr (.inr 613)), some (.inl (n)), some (.inl (to)), some (.inl (0))] [] (cm_hp (cm_ua E 617 (cm_u1 (E 617) (12 + to) (E 617 (12 + n)))) X) = cm_x 248 20 [some (.inr (.inr 613)), some (.inl (n)), some (.inl (to)), some (.inl (8))] [] (cm_hp (cm_ua E 617 f) X) := L
  rw [sg_X9_likeCells_0, w1, w2, ck_t (by omega), ck_t (by omega), up_to_ua, L, sg_X9_likeCells_20, if_neg (by omega)]
theorem d_90 {b m : Int → Int} {n l : Int} (hd : dOk D K B h) : dOk (u90 (cm_up D 17 n l) b m) K B h := dOk_of rfl rfl rfl rfl rfl rfl rfl hd
theorem ev_takeCells (hd : dOk D K B h) {n e m' : Int} (n0 : 0 ≤ n) (n1 : n < 12) (he : entOk K B e m') (hm : m' ≤ h) : ∃ b m, cm_x 68 0 [some (.inr (.inr 15)), some (.inl (n)), some (.inr (.inr 9)), some (.inl (e)), none, none] [] (cm_hp D X) = some (.inl none, cm_hp (u90 (cm_up D 17 n (B (15 * e + 8))) b m) X) ∧ cQ b m (D 19) (D 20) n (B (15 * e + 8)) (fun c => B (15 * e + c)) (fun c => mCel B e c) := by
  have hl := ent_len (d_g hd) he hm
  obtain ⟨⟨e0, e1⟩, ek, ec⟩ := he
  have e17 : ∀ b m, u90 (cm_up D 17 n (B (15 * e + 8))) b m 17 n = B (15 * e + 8) := fun b m => by
    show cm_u1 (D 17) n (B (15 * e + 8)) n = _
    rw [u1_eq]
  obtain ⟨⟨b, m⟩, L, P1, P2⟩ := lp_inv (X := fun c (s : (Int → Int) × (Int → Int)) => cm_x 68 19 [some (.inr (.inr 15)), some (.inl (n)), some (.inr (.inr 9)), some (.inl (e)), some (.inl (c)), none] [] (cm_hp (u90 (cm_up D 17 n (B (15 * e + 8))) s.1 s.2) X)) (P := fun c s => (∀ d, 0 ≤ d → d < c → s.1 (n * 8 + d) = B (15 * e + d) ∧ s.2 (n * 8 + d) = mCel B e d) ∧ ∀ j, (j < n * 8 ∨ n * 8 + 8 ≤ j) → s.1 j = D 19 j ∧ s.2 j = D 20 j) (lo := 0) (hi := B (15 * e + 8)) (fun c s c0 c1 hP => by
    obtain ⟨b, m⟩ := s
    obtain ⟨⟨x0, x1⟩, xk⟩ := ec c c0 c1
    refine ⟨(cm_u1 b (n * 8 + c) (B (15 * e + c)), cm_u1 m (n * 8 + c) (mCel B e c)), ?_, fun d d0 d1 => ?_, fun j hj => ?_⟩
    · show cm_x 68 19 [some (.inr (.inr 15)), some (.inl (n)), some (.inr (.inr 9)), some (.inl (e)), some (.inl (c)), none] [] (cm_hp (u90 (cm_up D 17 n (B (15 * e + 8))) b m) X) = cm_x 68 19 [some (.inr (.inr 15)), some (.inl (n)), some (.inr (.inr 9)), some (.inl (e)), some (.inl (c + 1)), none] [] (cm_hp (u90 (cm_up D 17 n (B (15 * e + 8))) (cm_u1 b (n * 8 + c) (B (15 * e + c))) (cm_u1 m (n * 8 + c) (mCel B e c))) X)
      have ew : cm_wr (c + 1) = c + 1 := cm_wr_id (by omega) (by omega)
      have hd' := d_90 (b := b) (m := m) (n := n) (l := B (15 * e + 8)) hd
      rw [sg_X6_takeCells_19, ck_t (by omega), e17, if_pos c1, ev_toldBy hd'.1, aft_v, tb_ent hd' e0 (by omega) ek c0 c1, sg_X6_takeCells_37, ev_toldBy hd'.1, aft_v, tb_dat hd' x0 (by omega) xk, sg_X6_takeCells_52, ev_put n0 n1 c0 (by omega), aft_n, sg_X6_takeCells_55, ew, u90_up]
      rfl
    · by_cases hd : d = c
      · subst hd
        show cm_u1 b (n * 8 + d) _ (n * 8 + d) = _ ∧ cm_u1 m (n * 8 + d) _ (n * 8 + d) = _
        rw [u1_eq, u1_eq]
        exact ⟨rfl, rfl⟩
      · show cm_u1 b (n * 8 + c) _ (n * 8 + d) = _ ∧ cm_u1 m (n * 8 + c) _ (n * 8 + d) = _
        rw [u1_ne (by omega), u1_ne (by omega)]
        exact hP.1 d d0 (by omega)
    · show cm_u1 b (n * 8 + c) _ j = _ ∧ cm_u1 m (n * 8 + c) _ j = _
      rw [u1_ne (by omega), u1_ne (by omega)]
      exact hP.2 j hj) (D 19, D 20) hl.1 ⟨fun d d0 d1 => by omega, fun _ _ => ⟨rfl, rfl⟩⟩
  refine ⟨b, m, ?_, P1, P2⟩
  have es : u90 (cm_up D 17 n (B (15 * e + 8))) (D 19) (D 20) = cm_up D 17 n (B (15 * e + 8)) := u90_self (D := cm_up D 17 n (B (15 * e + 8)))
  have L : cm_x 68 19 [some (.inr (.inr 15)), some (.inl (n)), some (.inr (.inr 9)), some (.inl (e)), some (.inl (0)), none] [] (cm_hp (cm_up D 17 n (B (15 * e + 8))) X) = cm_x 68 19 [some (.inr (.inr 15)), some (.inl (n)), some (.inr (.inr 9)), some (.inl (e)), some (.inl (B (15 * e + 8))), none] [] (cm_hp (u90 (cm_up D 17 n (B (15 * e + 8))) b m) X) := by
    have := L
    simp only [es] at this
    exact this
  rw [sg_X6_takeCells_0, ev_lengthOf hd.1, lo_ent hd e0 (by omega) ek, aft_v, sg_X6_takeCells_10, ck_t (by omega), mn_l hl.2, L, sg_X6_takeCells_19, ck_t (by omega), e17, if_neg (by omega)]
/-- the model's disc, whatever the row of what is in mind -/
theorem md_17 {f : Int → Int} (hd : mdOk E h) (h9 : f 244 = h) : mdOk (cm_ua E 617 f) h := ⟨hd.1, h9, hd.2.2⟩
theorem ev_mTakeCells (hd : mdOk E h) {n e m' : Int} (n0 : 0 ≤ n) (n1 : n < 12) (he : entOk (E 619) (E 620) e m') (hm : m' ≤ h) : ∃ f, cm_x 192 0 [some (.inr (.inr 613)), some (.inl (n)), some (.inl (e)), none, none] [] (cm_hp E X) = some (.inl none, cm_hp (cm_ua E 617 f) X) ∧ cM f (cm_u1 (E 617) (12 + n) (E 620 (15 * e + 8))) n (E 620 (15 * e + 8)) (fun c => E 620 (15 * e + c)) (fun c => mCel (E 620) e c) := by
  have hl := ent_len hd.1 he hm
  have hh := hd.1.2.2.2
  have w1 : cm_wr (12 + n) = 12 + n := cm_wr_id (by omega) (by omega)
  have he' := he
  obtain ⟨⟨e0, e1⟩, ek, ec⟩ := he
  obtain ⟨f, L, P1, P2⟩ := lp_inv (X := fun c f => cm_x 192 16 [some (.inr (.inr 613)), some (.inl (n)), some (.inl (e)), some (.inl (c)), none] [] (cm_hp (cm_ua E 617 f) X)) (P := fun c f => (∀ d, 0 ≤ d → d < c → d < E 620 (15 * e + 8) → f (36 + 8 * n + d) = E 620 (15 * e + d) ∧ f (132 + 8 * n + d) = mCel (E 620) e d) ∧ ∀ j, (j < 36 + 8 * n ∨ (44 + 8 * n ≤ j ∧ j < 132 + 8 * n) ∨ 140 + 8 * n ≤ j) → f j = cm_u1 (E 617) (12 + n) (E 620 (15 * e + 8)) j) (lo := 0) (hi := 8) (fun c f c0 c1 hP => by
    have q1 : cm_ua E 617 f 617 = f := ua_same
    have q2 : f (12 + n) = E 620 (15 * e + 8) := by rw [hP.2 _ (by omega), u1_eq]
    have ew : cm_wr (c + 1) = c + 1 := cm_wr_id (by omega) (by omega)
    have z8 : cm_wr (8 * n) = 8 * n := cm_wr_id (by omega) (by omega)
    have z36 : cm_wr (36 + 8 * n) = 36 + 8 * n := cm_wr_id (by omega) (by omega)
    have z132 : cm_wr (132 + 8 * n) = 132 + 8 * n := cm_wr_id (by omega) (by omega)
    have y36 : cm_wr (36 + 8 * n + c) = 36 + 8 * n + c := cm_wr_id (by omega) (by omega)
    have y132 : cm_wr (132 + 8 * n + c) = 132 + 8 * n + c := cm_wr_id (by omega) (by omega)
    have h9 : f 244 = h := by rw [hP.2 244 (by omega), u1_ne (by omega)]; exact hd.2.1
    by_cases hc : c < E 620 (15 * e + 8)
    · refine ⟨cm_u1 (cm_u1 f (36 + 8 * n + c) (E 620 (15 * e + c))) (132 + 8 * n + c) (mCel (E 620) e c), ?_, fun d d0 d1 d2 => ?_, fun j hj => ?_⟩
      · show cm_x 192 16 [some (.inr (.inr 613)), some (.inl (n)), some (.inl (e)), some (.inl (c)), none] [] (cm_hp (cm_ua E 617 f) X) = cm_x 192 16 [some (.inr (.inr 613)), some (.inl (n)), some (.inl (e)), some (.inl (c + 1)), none] [] (cm_hp (cm_ua E 617 (cm_u1 (cm_u1 f (36 + 8 * n + c) (E 620 (15 * e + c))) (132 + 8 * n + c) (mCel (E 620) e c))) X)
        have h9' : cm_u1 f (36 + 8 * n + c) (E 620 (15 * e + c)) 244 = h := by rw [u1_ne (by omega)]; exact h9
        rw [sg_X9_takeCells_16, if_pos c1, w1, ck_t (by omega), q1, q2, if_pos hc, z8, z36, y36, ev_mTells e0 (by omega) c0 (by omega), aft_v, sg_X9_takeCells_66, ck_t (by omega), if_neg (by omega), up_to_ua, ua_ua, ua_same, z8, z132, y132]
        have q3 : cm_ua E 617 f 620 = E 620 := rfl
        rw [q3, ev_mCellBy (D := cm_ua E 617 (cm_u1 f (36 + 8 * n + c) (E 620 (15 * e + c)))) (md_17 hd h9') he' hm c0 hc, aft_v, sg_X9_takeCells_96, ck_t (by omega), up_to_ua, ua_ua, ua_same, ew]
        rfl
      · by_cases hdc : d = c
        · subst hdc
          rw [u1_eq, u1_ne (by omega), u1_eq]
          exact ⟨rfl, rfl⟩
        · rw [u1_ne (by omega), u1_ne (by omega), u1_ne (by omega), u1_ne (by omega)]
          exact hP.1 d d0 (by omega) d2
      · rw [u1_ne (by omega), u1_ne (by omega)]
        exact hP.2 j hj
    · refine ⟨cm_u1 (cm_u1 f (36 + 8 * n + c) (-1)) (132 + 8 * n + c) 0, ?_, fun d d0 d1 d2 => ?_, fun j hj => ?_⟩
      · show cm_x 192 16 [some (.inr (.inr 613)), some (.inl (n)), some (.inl (e)), some (.inl (c)), none] [] (cm_hp (cm_ua E 617 f) X) = cm_x 192 16 [some (.inr (.inr 613)), some (.inl (n)), some (.inl (e)), some (.inl (c + 1)), none] [] (cm_hp (cm_ua E 617 (cm_u1 (cm_u1 f (36 + 8 * n + c) (-1)) (132 + 8 * n + c) 0)) X)
        rw [sg_X9_takeCells_16, if_pos c1, w1, ck_t (by omega), q1, q2, if_neg hc, z8, z36, z132, y36, y132, ck_t (by omega), ck_t (by omega), ew]
        simp only [up_to_ua, ua_ua, ua_same]
      · rw [u1_ne (by omega), u1_ne (by omega), u1_ne (by omega), u1_ne (by omega)]
        exact hP.1 d d0 (by omega) d2
      · rw [u1_ne (by omega), u1_ne (by omega)]
        exact hP.2 j hj) (cm_u1 (E 617) (12 + n) (E 620 (15 * e + 8))) (by omega) ⟨fun d d0 d1 => by omega, fun _ _ => rfl⟩
  refine ⟨f, ?_, fun c c0 c1 => P1 c c0 (by omega) c1, P2⟩
  have L : cm_x 192 16 [some (.inr (.inr 613)), some (.inl (n)), some (.inl (e)), some (.inl (0)), none] [] (cm_hp (cm_ua E 617 (cm_u1 (E 617) (12 + n) (E 620 (15 * e + 8)))) X) = cm_x 192 16 [some (.inr (.inr 613)), some (.inl (n)), some (.inl (e)), some (.inl (8)), none] [] (cm_hp (cm_ua E 617 f) X) := L
  rw [sg_X9_takeCells_0, w1, ev_mMany e0 (by omega), aft_v, sg_X9_takeCells_13, ck_t (by omega), up_to_ua, L, sg_X9_takeCells_16, if_neg (by omega)]
