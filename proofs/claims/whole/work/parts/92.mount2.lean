/-! a map is mounted: the runs -/
variable {D E : Nat → Int → Int} {X : cm_X} {K B : Int → Int} {h pk t : Int} {r : Int → Int}
abbrev mF (G : Nat → Int → Int) (a c b m : Int → Int) : Nat → Int → Int := u90 (cm_ua (cm_ua G 16 a) 17 c) b m
theorem mF_up {G : Nat → Int → Int} {a c b m b' m' : Int → Int} {n v l : Int} : u90 (cm_up (cm_up (mF G a c b m) 16 n v) 17 n l) b' m' = mF G (cm_u1 a n v) (cm_u1 c n l) b' m' := by
  funext x
  unfold mF u90
  by_cases h1 : x = 20
  · rw [h1, ua_same, ua_same]
  · rw [ua_row h1, ua_row h1]
    by_cases h2 : x = 19
    · rw [h2, ua_same, ua_same]
    · rw [ua_row h2, ua_row h2]
      by_cases h3 : x = 17
      · rw [h3, up_same, ua_same]
        rfl
      · rw [up_row h3, ua_row h3]
        by_cases h4 : x = 16
        · rw [h4, up_same, ua_same]
          rfl
        · rw [up_row h4, ua_row h1, ua_row h2, ua_row h3, ua_row h4, ua_row h4]
theorem ev_mtW {G : Nat → Int → Int} (hd : dOk G K B h) {m : Int} (hm : mpO K (G 9 1) h m) : ∃ g, cm_x 67 31 [some (.inr (.inr 15)), some (.inr (.inr 9)), some (.inl (m)), some (.inl (0)), none] [] (cm_hp G X) = cm_x 67 57 [some (.inr (.inr 15)), some (.inr (.inr 9)), some (.inl (m)), some (.inl (0)), none] [] (cm_hp (cm_ua G 21 g) X) ∧ ∀ v, 0 ≤ v → v < 13 → g v = tl B m v := by
  obtain ⟨g, L, P⟩ := lp_inv (X := fun v g => cm_x 67 31 [some (.inr (.inr 15)), some (.inr (.inr 9)), some (.inl (m)), some (.inl (v)), none] [] (cm_hp (cm_ua G 21 g) X)) (P := fun v g => ∀ w, 0 ≤ w → w < v → g w = tl B m w) (lo := 0) (hi := 13) (fun v g v0 v1 hP => by
    have hdG : dOk (cm_ua G 21 g) K B h := dOk_of rfl rfl rfl rfl rfl rfl rfl hd
    refine ⟨cm_u1 g v (tl B m v), ?_, fun w w0 w1 => ?_⟩
    · show cm_x 67 31 [some (.inr (.inr 15)), some (.inr (.inr 9)), some (.inl (m)), some (.inl (v)), none] [] (cm_hp (cm_ua G 21 g) X) = cm_x 67 31 [some (.inr (.inr 15)), some (.inr (.inr 9)), some (.inl (m)), some (.inl (v + 1)), none] [] (cm_hp (cm_ua G 21 (cm_u1 g v (tl B m v))) X)
      rw [sg_X6_mountMap_31, if_pos v1, ev_tl hdG hm v0 (by omega), aft_v, sg_X6_mountMap_48, ck_t (by omega), up_to_ua, ua_ua, ua_same, cm_wr_id (by omega) (by omega)]
    · by_cases hw : w = v
      · rw [hw, u1_eq]
      · rw [u1_ne hw]; exact hP w w0 (by omega)) (G 21) (by omega) (fun w w0 w1 => by omega)
  have L : cm_x 67 31 [some (.inr (.inr 15)), some (.inr (.inr 9)), some (.inl (m)), some (.inl (0)), none] [] (cm_hp G X) = cm_x 67 31 [some (.inr (.inr 15)), some (.inr (.inr 9)), some (.inl (m)), some (.inl (13)), none] [] (cm_hp (cm_ua G 21 g) X) := by
    have := L
    rw [ua_id] at this
    exact this
  refine ⟨g, ?_, P⟩
  rw [L, sg_X6_mountMap_31, if_neg (by omega)]
theorem ev_mtN {G : Nat → Int → Int} (hd : dOk G K B h) {m : Int} (hm : mpO K (G 9 1) h m) (hW : G 21 0 = tl B m 0) (hz : ∀ n, 0 ≤ n → n < 12 → G 16 n = 0 ∧ G 17 n = 0) : ∃ a c b q, cm_x 67 57 [some (.inr (.inr 15)), some (.inr (.inr 9)), some (.inl (m)), some (.inl (0)), none] [] (cm_hp G X) = some (.inl none, cm_hp (mF G a c b q) X) ∧ (∀ n, 0 ≤ n → n < 12 → a n = (if vn B m n = -1 then 0 else vn B m n) ∧ c n = (if vn B m n = -1 then 0 else B (15 * en B m n + 8))) ∧ ∀ n d, 0 ≤ n → n < 12 → vn B m n ≠ -1 → 0 ≤ d → d < B (15 * en B m n + 8) → b (n * 8 + d) = B (15 * en B m n + d) ∧ q (n * 8 + d) = mCel B (en B m n) d := by
  have gd := d_g hd
  have hmh : m ≤ h := by rcases hm with hm | ⟨⟨_, _⟩, _⟩ <;> have := gd.2.2.1 <;> omega
  obtain ⟨⟨a, c, b, q⟩, L, P1, P2, P3⟩ := lp_inv (X := fun n (s : (Int → Int) × (Int → Int) × (Int → Int) × (Int → Int)) => cm_x 67 57 [some (.inr (.inr 15)), some (.inr (.inr 9)), some (.inl (m)), some (.inl (n)), none] [] (cm_hp (mF G s.1 s.2.1 s.2.2.1 s.2.2.2) X)) (P := fun n s => (∀ k, 0 ≤ k → k < n → s.1 k = (if vn B m k = -1 then 0 else vn B m k) ∧ s.2.1 k = (if vn B m k = -1 then 0 else B (15 * en B m k + 8))) ∧ (∀ k, n ≤ k → k < 12 → s.1 k = 0 ∧ s.2.1 k = 0) ∧ ∀ k d, 0 ≤ k → k < n → vn B m k ≠ -1 → 0 ≤ d → d < B (15 * en B m k + 8) → s.2.2.1 (k * 8 + d) = B (15 * en B m k + d) ∧ s.2.2.2 (k * 8 + d) = mCel B (en B m k) d) (lo := 0) (hi := 12) (fun n s n0 n1 hP => by
    obtain ⟨a, c, b, q⟩ := s
    obtain ⟨p1, p2, p3⟩ := hP
    have e : cm_wr (n + 1) = n + 1 := cm_wr_id (by omega) (by omega)
    have hdF : dOk (mF G a c b q) K B h := dOk_of rfl rfl rfl rfl rfl rfl rfl hd
    obtain ⟨z1, z2⟩ := vn_ok gd hm n0 n1
    have h21 : mF G a c b q 21 0 = tl B m 0 := hW
    have hvn : tb (mF G a c b q) (tl B m 0) n = vn B m n := by
      unfold vn tl
      by_cases h1 : m = -1
      · rw [if_pos h1, if_pos h1, tb_none]
      · rw [if_neg h1, if_neg h1, Int.add_zero]
        by_cases h2 : B (15 * m) = -1
        · rw [if_pos h2, h2, tb_none]
        · obtain ⟨⟨m0, m1⟩, mk, md, -⟩ := mp_map gd hm h1
          obtain ⟨⟨x0, x1⟩, xk, -⟩ := md.resolve_left h2
          rw [if_neg h2, tb_dir hdF x0 (by omega) xk n0 n1]
    have run : cm_x 67 57 [some (.inr (.inr 15)), some (.inr (.inr 9)), some (.inl (m)), some (.inl (n)), none] [] (cm_hp (mF G a c b q) X) = cm_x 67 74 [some (.inr (.inr 15)), some (.inr (.inr 9)), some (.inl (m)), some (.inl (n)), none] [.inl (vn B m n)] (cm_hp (mF G a c b q) X) := by
      rw [sg_X6_mountMap_57, if_pos n1, h21, ev_toldBy hdF.1, hvn, aft_v]
    by_cases hv : vn B m n = -1
    · refine ⟨(a, c, b, q), ?_, fun k k0 k1 => ?_, fun k k0 k1 => p2 k (by omega) k1, fun k d k0 k1 kv d0 d1 => ?_⟩
      · show cm_x 67 57 [some (.inr (.inr 15)), some (.inr (.inr 9)), some (.inl (m)), some (.inl (n)), none] [] (cm_hp (mF G a c b q) X) = cm_x 67 57 [some (.inr (.inr 15)), some (.inr (.inr 9)), some (.inl (m)), some (.inl (n + 1)), none] [] (cm_hp (mF G a c b q) X)
        rw [run, sg_X6_mountMap_74, if_pos hv, sg_X6_mountMap_103, e]
      · by_cases hk : k = n
        · rw [hk, if_pos hv, if_pos hv]; exact p2 n (by omega) n1
        · exact p1 k k0 (by omega)
      · by_cases hk : k = n
        · rw [hk] at kv; exact absurd hv kv
        · exact p3 k d k0 (by omega) kv d0 d1
    · obtain ⟨w1, w2, w3, w4, w5, w6⟩ := z2 hv
      have hdU : dOk (cm_up (mF G a c b q) 16 n (vn B m n)) K B h := dOk_of rfl rfl rfl rfl rfl rfl rfl hd
      have hmU : mpO K ((cm_up (mF G a c b q) 16 n (vn B m n)) 9 1) h m := hm
      have het : tl B m (vn B m n) = en B m n := by unfold tl; rw [if_neg w1, w4]
      obtain ⟨b', q', c1, c2, c3⟩ := ev_takeCells (X := X) hdU n0 n1 w6 hmh
      refine ⟨(cm_u1 a n (vn B m n), cm_u1 c n (B (15 * en B m n + 8)), b', q'), ?_, fun k k0 k1 => ?_, fun k k0 k1 => ?_, fun k d k0 k1 kv d0 d1 => ?_⟩
      · show cm_x 67 57 [some (.inr (.inr 15)), some (.inr (.inr 9)), some (.inl (m)), some (.inl (n)), none] [] (cm_hp (mF G a c b q) X) = cm_x 67 57 [some (.inr (.inr 15)), some (.inr (.inr 9)), some (.inl (m)), some (.inl (n + 1)), none] [] (cm_hp (mF G (cm_u1 a n (vn B m n)) (cm_u1 c n (B (15 * en B m n + 8))) b' q') X)
        rw [run, sg_X6_mountMap_74, if_neg hv, ck_t (by omega), ev_tl hdU hmU (by omega) (by omega), het, aft_v, sg_X6_mountMap_100, c1, aft_n, sg_X6_mountMap_103, e, mF_up]
      · show cm_u1 a n _ k = _ ∧ cm_u1 c n _ k = _
        by_cases hk : k = n
        · rw [hk, u1_eq, u1_eq, if_neg hv, if_neg hv]; exact ⟨rfl, rfl⟩
        · rw [u1_ne hk, u1_ne hk]; exact p1 k k0 (by omega)
      · show cm_u1 a n _ k = _ ∧ cm_u1 c n _ k = _
        rw [u1_ne (by omega), u1_ne (by omega)]; exact p2 k (by omega) k1
      · show b' (k * 8 + d) = _ ∧ q' (k * 8 + d) = _
        by_cases hk : k = n
        · subst hk
          exact c2 d d0 d1
        · have hok := (vn_ok gd hm k0 (by omega : k < 12)).2 kv
          have hl := ent_len gd hok.2.2.2.2.2 hmh
          have hq := c3 (k * 8 + d) (by omega)
          have hp := p3 k d k0 (by omega) kv d0 d1
          exact ⟨hq.1.trans hp.1, hq.2.trans hp.2⟩) (G 16, G 17, G 19, G 20) (by omega) ⟨fun k k0 k1 => by omega, fun k k0 k1 => hz k k0 k1, fun k d k0 k1 => by omega⟩
  refine ⟨a, c, b, q, ?_, P1, P3⟩
  have es : mF G (G 16) (G 17) (G 19) (G 20) = G := by
    unfold mF
    have : cm_ua (cm_ua G 16 (G 16)) 17 (G 17) = G := by rw [ua_id, ua_id]
    rw [this]; exact u90_self
  have L : cm_x 67 57 [some (.inr (.inr 15)), some (.inr (.inr 9)), some (.inl (m)), some (.inl (0)), none] [] (cm_hp G X) = cm_x 67 57 [some (.inr (.inr 15)), some (.inr (.inr 9)), some (.inl (m)), some (.inl (12)), none] [] (cm_hp (mF G a c b q) X) := by
    have := L
    simp only [es] at this
    exact this
  rw [L, sg_X6_mountMap_57, if_neg (by omega)]
theorem ev_mount (hd : dOk D K B h) {m : Int} (hm : mpO K (D 9 1) h m) : ∃ D', cm_x 67 0 [some (.inr (.inr 15)), some (.inr (.inr 9)), some (.inl (m)), none, none] [] (cm_hp D X) = some (.inl none, cm_hp D' X) ∧ mtS B m (stt D' 15) (stt D 15) ∧ ∀ x : Nat, (x < 15 ∨ 22 ≤ x) → D' x = D x := by
  obtain ⟨D1, r1, q1, q2, q3, q4⟩ := ev_drop (D := D) (X := X)
  have e9 : D1 9 = D 9 := q4 9 (by omega) (by omega) (by omega) (by omega) (by omega)
  have hd1 : dOk (cm_up D1 15 7 m) K B h := dOk_of (by show D1 9 0 = _; rw [e9]) (by show D1 9 1 = _; rw [e9]) (by show D1 9 2 = _; rw [e9]) (by show D1 9 3 = _; rw [e9]) (by show D1 11 = _; exact q4 11 (by omega) (by omega) (by omega) (by omega) (by omega)) (by show D1 12 = _; exact q4 12 (by omega) (by omega) (by omega) (by omega) (by omega)) (by show D1 13 = _; exact q4 13 (by omega) (by omega) (by omega) (by omega) (by omega)) hd
  have hm1 : mpO K ((cm_up D1 15 7 m) 9 1) h m := by show mpO K (D1 9 1) h m; rw [e9]; exact hm
  have run : cm_x 67 4 [some (.inr (.inr 15)), some (.inr (.inr 9)), some (.inl (m)), none, none] [] (cm_hp D1 X) = cm_x 67 31 [some (.inr (.inr 15)), some (.inr (.inr 9)), some (.inl (m)), some (.inl (0)), none] [] (cm_hp (cm_up (cm_up D1 15 7 m) 15 8 (ssn B m)) X) := by
    rw [sg_X6_mountMap_4]
    unfold ssn
    by_cases h1 : m = -1
    · rw [if_pos h1, if_pos h1, sg_X6_mountMap_26_1]
    · have := ev_tl (X := X) hd1 hm1 (v := 14) (by omega) (by omega)
      rw [if_neg h1, if_neg h1, this, aft_v, sg_X6_mountMap_26]
      unfold tl
      rw [if_neg h1]
  have hd2 : dOk (cm_up (cm_up D1 15 7 m) 15 8 (ssn B m)) K B h := dOk_of rfl rfl rfl rfl rfl rfl rfl hd1
  obtain ⟨g, g1, g2⟩ := ev_mtW (X := X) hd2 hm1
  have hd3 : dOk (cm_ua (cm_up (cm_up D1 15 7 m) 15 8 (ssn B m)) 21 g) K B h := dOk_of rfl rfl rfl rfl rfl rfl rfl hd2
  obtain ⟨a, c, b, q, n1, n2, n3⟩ := ev_mtN (X := X) hd3 hm1 (g2 0 (by omega) (by omega)) (fun n n0 n1 => ⟨(q1 n n0 n1).1, (q1 n n0 n1).2.1⟩)
  refine ⟨mF (cm_ua (cm_up (cm_up D1 15 7 m) 15 8 (ssn B m)) 21 g) a c b q, ?_, ⟨fun n n0 n1 => ⟨(n2 n n0 n1).1, (n2 n n0 n1).2, (q1 n n0 n1).2.2⟩, fun n d n0 n1 hv d0 d1 => n3 n d n0 n1 hv d0 d1, fun v v0 v1 => g2 v v0 v1, ?_, ?_, ?_, ?_, ?_⟩, fun x hx => ?_⟩
  · rw [sg_X6_mountMap_0, r1, aft_n, run, g1, n1]
  · show D1 15 6 = 0
    rw [q3]; rfl
  · rfl
  · rfl
  · show D1 15 9 = D 15 9
    rw [q3]; rfl
  · show D1 15 10 = D 15 10
    rw [q3]; rfl
  · unfold mF u90
    rw [ua_row (by omega), ua_row (by omega), ua_row (by omega), ua_row (by omega), ua_row (by omega), up_row (by omega), up_row (by omega)]
    exact q4 x (by omega) (by omega) (by omega) (by omega) (by omega)
theorem ev_mMount (hd : mdOk E h) {m : Int} (hm : mpO (E 619) (E 614 1) h m) : ∃ f, cm_x 193 0 [some (.inr (.inr 613)), some (.inl (m)), none, none] [] (cm_hp E X) = some (.inl none, cm_hp (cm_ua E 617 f) X) ∧ mtM (E 620) m f (E 617) := by
  have gd := hd.1
  have hh := hd.1.2.2.2
  have hmh : m ≤ h := by rcases hm with hm | ⟨⟨_, _⟩, _⟩ <;> have := gd.2.2.1 <;> omega
  obtain ⟨f0, r0, q1, q2, q3, q4⟩ := ev_noFiles (E := E) (X := X)
  have run0 : cm_x 193 0 [some (.inr (.inr 613)), some (.inl (m)), none, none] [] (cm_hp E X) = cm_x 193 42 [some (.inr (.inr 613)), some (.inl (m)), some (.inl (0)), none] [] (cm_hp (cm_ua E 617 (cm_u1 (cm_u1 f0 242 m) 243 (ssn (E 620) m))) X) := by
    rw [sg_X9_mountMap_0, r0, aft_n, sg_X9_mountMap_7]
    unfold ssn
    by_cases h1 : m = -1
    · rw [if_pos h1, if_pos h1, sg_X9_mountMap_39_1]
      simp only [up_to_ua, ua_ua, ua_same]
    · obtain ⟨⟨m0, m1⟩, -, -⟩ := mp_map gd hm h1
      rw [if_neg h1, if_neg h1, ev_mTells m0 (by omega) (by omega) (by omega), aft_v, sg_X9_mountMap_39]
      simp only [up_to_ua, ua_ua, ua_same]
      rfl
  by_cases h1 : m = -1
  · have hvn : ∀ n, vn (E 620) m n = -1 := fun n => by unfold vn; rw [if_pos h1]
    refine ⟨cm_u1 (cm_u1 f0 242 m) 243 (ssn (E 620) m), ?_, fun n n0 n1 => ?_, fun n c n0 n1 hv => absurd (hvn n) hv, fun v v0 v1 => ?_, ?_, ?_, ?_, ?_, ?_⟩
    · rw [run0, sg_X9_mountMap_42, if_pos (by omega), if_pos h1, sg_X9_mountMap_77, if_pos (by omega), if_pos h1]
    · rw [hvn, if_pos rfl]
      simp (disch := omega) only [u1_ne]
      exact q1 n n0 n1
    · simp (disch := omega) only [u1_ne]
      unfold tl
      rw [if_pos h1]
      exact q2 v v0 v1
    · simp (disch := omega) only [u1_ne]
      exact q3
    · rw [u1_ne (by omega), u1_eq]
    · rw [u1_eq]
    · simp (disch := omega) only [u1_ne]
      exact q4 244 (by omega)
    · simp (disch := omega) only [u1_ne]
      exact q4 245 (by omega)
  · obtain ⟨⟨m0, m1⟩, mk, mo⟩ := mp_map gd hm h1
    have etl : ∀ v, tl (E 620) m v = E 620 (15 * m + v) := fun v => if_neg h1
    have een : ∀ n, en (E 620) m n = mEnt (E 620) m n := fun n => if_neg h1
    obtain ⟨f1, L1, P1, P2⟩ := lp_inv (X := fun v f => cm_x 193 42 [some (.inr (.inr 613)), some (.inl (m)), some (.inl (v)), none] [] (cm_hp (cm_ua E 617 f) X)) (P := fun v f => (∀ w, 0 ≤ w → w < v → f (228 + w) = tl (E 620) m w) ∧ ∀ j, (j < 228 ∨ 241 ≤ j) → f j = cm_u1 (cm_u1 f0 242 m) 243 (ssn (E 620) m) j) (lo := 0) (hi := 13) (fun v f v0 v1 hP => by
      refine ⟨cm_u1 f (228 + v) (tl (E 620) m v), ?_, fun w w0 w1 => ?_, fun j hj => ?_⟩
      · show cm_x 193 42 [some (.inr (.inr 613)), some (.inl (m)), some (.inl (v)), none] [] (cm_hp (cm_ua E 617 f) X) = cm_x 193 42 [some (.inr (.inr 613)), some (.inl (m)), some (.inl (v + 1)), none] [] (cm_hp (cm_ua E 617 (cm_u1 f (228 + v) (tl (E 620) m v))) X)
        have w228 : cm_wr (228 + v) = 228 + v := cm_wr_id (by omega) (by omega)
        have q : cm_ua E 617 f 620 = E 620 := rfl
        rw [sg_X9_mountMap_42, if_pos v1, if_neg h1, w228, ev_mTells m0 (by omega) v0 (by omega), aft_v, sg_X9_mountMap_68, ck_t (by omega), up_to_ua, ua_ua, ua_same, cm_wr_id (by omega) (by omega), q, etl]
      · by_cases hw : w = v
        · rw [hw, u1_eq]
        · rw [u1_ne (by omega)]; exact hP.1 w w0 (by omega)
      · rw [u1_ne (by omega)]; exact hP.2 j hj) (cm_u1 (cm_u1 f0 242 m) 243 (ssn (E 620) m)) (by omega) ⟨fun w w0 w1 => by omega, fun _ _ => rfl⟩
    obtain ⟨f2, L2, Q1, Q2, Q3, Q4⟩ := lp_inv (X := fun n f => cm_x 193 77 [some (.inr (.inr 613)), some (.inl (m)), some (.inl (n)), none] [] (cm_hp (cm_ua E 617 f) X)) (P := fun n f => (∀ k, 0 ≤ k → k < n → f k = vn (E 620) m k ∧ f (12 + k) = (if vn (E 620) m k = -1 then 0 else E 620 (15 * en (E 620) m k + 8))) ∧ (∀ k, n ≤ k → k < 12 → f k = -1 ∧ f (12 + k) = 0) ∧ (∀ k d, 0 ≤ k → k < n → vn (E 620) m k ≠ -1 → 0 ≤ d → d < E 620 (15 * en (E 620) m k + 8) → f (36 + 8 * k + d) = E 620 (15 * en (E 620) m k + d) ∧ f (132 + 8 * k + d) = mCel (E 620) (en (E 620) m k) d) ∧ ∀ j, ((24 ≤ j ∧ j < 36) ∨ 228 ≤ j) → f j = f1 j) (lo := 0) (hi := 12) (fun n f n0 n1 hP => by
      obtain ⟨p1, p2, p3, p4⟩ := hP
      have e : cm_wr (n + 1) = n + 1 := cm_wr_id (by omega) (by omega)
      have w0 : cm_wr (0 + n) = n := by rw [Int.zero_add]; exact cm_wr_id (by omega) (by omega)
      have h244 : f 244 = h := by
        rw [p4 244 (by omega), P2 244 (by omega), u1_ne (by omega), u1_ne (by omega), q4 244 (by omega)]
        exact hd.2.1
      have hdF : mdOk (cm_ua E 617 f) h := md_17 hd h244
      obtain ⟨z1, z2⟩ := vn_ok gd hm n0 n1
      have hE : mEnt ((cm_ua E 617 f) 620) m n = en (E 620) m n := (een n).symm
      have hmF : mpO ((cm_ua E 617 f) 619) ((cm_ua E 617 f) 614 1) h m := hm
      by_cases hv : vn (E 620) m n = -1
      · refine ⟨f, ?_, fun k k0 k1 => ?_, fun k k0 k1 => p2 k (by omega) k1, fun k d k0 k1 kv d0 d1 => ?_, p4⟩
        · show cm_x 193 77 [some (.inr (.inr 613)), some (.inl (m)), some (.inl (n)), none] [] (cm_hp (cm_ua E 617 f) X) = cm_x 193 77 [some (.inr (.inr 613)), some (.inl (m)), some (.inl (n + 1)), none] [] (cm_hp (cm_ua E 617 f) X)
          rw [sg_X9_mountMap_77, if_pos n1, if_neg h1, ev_mEntryBy hdF hmF h1 n0 n1, hE, aft_v, sg_X9_mountMap_94, if_pos (z1 hv), sg_X9_mountMap_128, e]
        · by_cases hk : k = n
          · rw [hk, if_pos hv, hv]; exact p2 n (by omega) n1
          · exact p1 k k0 (by omega)
        · by_cases hk : k = n
          · rw [hk] at kv; exact absurd hv kv
          · exact p3 k d k0 (by omega) kv d0 d1
      · obtain ⟨-, w2, w3, w4, w5, w6⟩ := z2 hv
        have hvn : vn (E 620) m n = E 620 (15 * E 620 (15 * m) + n) := by unfold vn; rw [if_neg h1, if_neg w2]
        obtain ⟨d0, d1⟩ := ((mo.1.resolve_left w2).1)
        have h244' : cm_u1 f n (vn (E 620) m n) 244 = h := by rw [u1_ne (by omega)]; exact h244
        obtain ⟨f', c1, c2, c3⟩ := ev_mTakeCells (E := cm_ua E 617 (cm_u1 f n (vn (E 620) m n))) (X := X) (md_17 hd h244') n0 n1 w6 hmh
        have q20 : cm_ua E 617 f 620 = E 620 := rfl
        have hl := ent_len gd w6 hmh
        refine ⟨f', ?_, fun k k0 k1 => ?_, fun k k0 k1 => ?_, fun k d k0 k1 kv d0 d1 => ?_, fun j hj => ?_⟩
        · show cm_x 193 77 [some (.inr (.inr 613)), some (.inl (m)), some (.inl (n)), none] [] (cm_hp (cm_ua E 617 f) X) = cm_x 193 77 [some (.inr (.inr 613)), some (.inl (m)), some (.inl (n + 1)), none] [] (cm_hp (cm_ua E 617 f') X)
          rw [sg_X9_mountMap_77, if_pos n1, if_neg h1, ev_mEntryBy hdF hmF h1 n0 n1, hE, aft_v, sg_X9_mountMap_94, if_neg w5, w0, ev_mTells m0 (by omega) (by omega) (by omega), aft_v, sg_X9_mountMap_117, q20, Int.add_zero, ev_mTells d0 (by omega) n0 (by omega), aft_v, sg_X9_mountMap_121, q20, ck_t (by omega), ← hvn, up_to_ua, ua_ua, ua_same, c1, aft_n, sg_X9_mountMap_128, e, ua_ua]
        · rw [c3 k (by omega), c3 (12 + k) (by omega), ua_same]
          by_cases hk : k = n
          · subst hk
            rw [u1_ne (by omega), u1_eq, u1_eq, if_neg hv]
            exact ⟨rfl, rfl⟩
          · rw [u1_ne (by omega), u1_ne hk, u1_ne (by omega), u1_ne (by omega)]
            exact p1 k k0 (by omega)
        · rw [c3 k (by omega), c3 (12 + k) (by omega), ua_same, u1_ne (by omega), u1_ne (by omega), u1_ne (by omega), u1_ne (by omega)]
          exact p2 k (by omega) k1
        · by_cases hk : k = n
          · subst hk
            exact c2 d d0 d1
          · have hok := (vn_ok gd hm k0 (by omega : k < 12)).2 kv
            have hlk := ent_len gd hok.2.2.2.2.2 hmh
            rw [c3 (36 + 8 * k + d) (by omega), c3 (132 + 8 * k + d) (by omega), ua_same, u1_ne (by omega), u1_ne (by omega), u1_ne (by omega), u1_ne (by omega)]
            exact p3 k d k0 (by omega) kv d0 d1
        · rw [c3 j (by omega), ua_same, u1_ne (by omega), u1_ne (by omega)]
          exact p4 j hj) f1 (by omega) ⟨fun k k0 k1 => by omega, fun k k0 k1 => by
        rw [P2 k (by omega), P2 (12 + k) (by omega)]
        simp (disch := omega) only [u1_ne]
        exact ⟨(q1 k k0 k1).1, (q1 k k0 k1).2.1⟩, fun k d k0 k1 => by omega, fun _ _ => rfl⟩
    have L1 : cm_x 193 42 [some (.inr (.inr 613)), some (.inl (m)), some (.inl (0)), none] [] (cm_hp (cm_ua E 617 (cm_u1 (cm_u1 f0 242 m) 243 (ssn (E 620) m))) X) = cm_x 193 42 [some (.inr (.inr 613)), some (.inl (m)), some (.inl (13)), none] [] (cm_hp (cm_ua E 617 f1) X) := L1
    have L2 : cm_x 193 77 [some (.inr (.inr 613)), some (.inl (m)), some (.inl (0)), none] [] (cm_hp (cm_ua E 617 f1) X) = cm_x 193 77 [some (.inr (.inr 613)), some (.inl (m)), some (.inl (12)), none] [] (cm_hp (cm_ua E 617 f2) X) := L2
    refine ⟨f2, ?_, fun n n0 n1 => ⟨(Q1 n n0 n1).1, (Q1 n n0 n1).2, ?_⟩, fun n c n0 n1 hv c0 c1 => Q3 n c n0 n1 hv c0 c1, fun v v0 v1 => ?_, ?_, ?_, ?_, ?_, ?_⟩
    · rw [run0, L1, sg_X9_mountMap_42, if_neg (by omega), L2, sg_X9_mountMap_77, if_neg (by omega)]
    · rw [Q4 _ (by omega), P2 _ (by omega)]
      simp (disch := omega) only [u1_ne]
      exact (q1 n n0 n1).2.2
    · rw [Q4 _ (by omega)]; exact P1 v v0 v1
    · rw [Q4 _ (by omega), P2 _ (by omega), u1_ne (by omega), u1_ne (by omega)]; exact q3
    · rw [Q4 _ (by omega), P2 _ (by omega), u1_ne (by omega), u1_eq]
    · rw [Q4 _ (by omega), P2 _ (by omega), u1_eq]
    · rw [Q4 _ (by omega), P2 _ (by omega), u1_ne (by omega), u1_ne (by omega)]; exact q4 244 (by omega)
    · rw [Q4 _ (by omega), P2 _ (by omega), u1_ne (by omega), u1_ne (by omega)]; exact q4 245 (by omega)
