/-! files are dropped; a map is mounted: both -/
variable {D E : Nat → Int → Int} {X : cm_X} {K B : Int → Int} {h pk t : Int} {r : Int → Int}
theorem ev_fillv (v : Int) : ∃ g, cm_x 294 0 [some (.inr (.inr 16)), some (.inl (v)), none, none] [] (cm_hp D X) = some (.inl none, cm_hp (cm_ua D 16 g) X) ∧ ∀ n, 0 ≤ n → n < 12 → g n = v := by
  obtain ⟨g, L, P⟩ := lp_inv (X := fun i g => cm_x 294 5 [some (.inr (.inr 16)), some (.inl (v)), some (.inl (i)), some (.inl (12))] [] (cm_hp (cm_ua D 16 g) X)) (P := fun i g => ∀ n, 0 ≤ n → n < i → g n = v) (lo := 0) (hi := 12) (fun i g i0 i1 hP => by
    refine ⟨cm_u1 g i v, ?_, fun n n0 n1 => ?_⟩
    · show cm_x 294 5 [some (.inr (.inr 16)), some (.inl (v)), some (.inl (i)), some (.inl (12))] [] (cm_hp (cm_ua D 16 g) X) = cm_x 294 5 [some (.inr (.inr 16)), some (.inl (v)), some (.inl (i + 1)), some (.inl (12))] [] (cm_hp (cm_ua D 16 (cm_u1 g i v)) X)
      rw [sg_J7_fill_53178_v_5, if_pos i1, ck_t (by omega), up_to_ua, ua_ua, ua_same, cm_wr_id (by omega) (by omega)]
    · by_cases hn : n = i
      · rw [hn, u1_eq]
      · rw [u1_ne hn]; exact hP n n0 (by omega)) (D 16) (by omega) (fun n n0 n1 => by omega)
  have L : cm_x 294 5 [some (.inr (.inr 16)), some (.inl (v)), some (.inl (0)), some (.inl (12))] [] (cm_hp D X) = cm_x 294 5 [some (.inr (.inr 16)), some (.inl (v)), some (.inl (12)), some (.inl (12))] [] (cm_hp (cm_ua D 16 g) X) := by
    have := L
    rw [ua_id] at this
    exact this
  refine ⟨g, ?_, P⟩
  rw [sg_J7_fill_53178_v_0, L, sg_J7_fill_53178_v_5, if_neg (by omega)]
theorem ev_filll (v : Int) : ∃ g, cm_x 294 0 [some (.inr (.inr 17)), some (.inl (v)), none, none] [] (cm_hp D X) = some (.inl none, cm_hp (cm_ua D 17 g) X) ∧ ∀ n, 0 ≤ n → n < 12 → g n = v := by
  obtain ⟨g, L, P⟩ := lp_inv (X := fun i g => cm_x 294 5 [some (.inr (.inr 17)), some (.inl (v)), some (.inl (i)), some (.inl (12))] [] (cm_hp (cm_ua D 17 g) X)) (P := fun i g => ∀ n, 0 ≤ n → n < i → g n = v) (lo := 0) (hi := 12) (fun i g i0 i1 hP => by
    refine ⟨cm_u1 g i v, ?_, fun n n0 n1 => ?_⟩
    · show cm_x 294 5 [some (.inr (.inr 17)), some (.inl (v)), some (.inl (i)), some (.inl (12))] [] (cm_hp (cm_ua D 17 g) X) = cm_x 294 5 [some (.inr (.inr 17)), some (.inl (v)), some (.inl (i + 1)), some (.inl (12))] [] (cm_hp (cm_ua D 17 (cm_u1 g i v)) X)
      rw [sg_J7_fill_53178_l_5, if_pos i1, ck_t (by omega), up_to_ua, ua_ua, ua_same, cm_wr_id (by omega) (by omega)]
    · by_cases hn : n = i
      · rw [hn, u1_eq]
      · rw [u1_ne hn]; exact hP n n0 (by omega)) (D 17) (by omega) (fun n n0 n1 => by omega)
  have L : cm_x 294 5 [some (.inr (.inr 17)), some (.inl (v)), some (.inl (0)), some (.inl (12))] [] (cm_hp D X) = cm_x 294 5 [some (.inr (.inr 17)), some (.inl (v)), some (.inl (12)), some (.inl (12))] [] (cm_hp (cm_ua D 17 g) X) := by
    have := L
    rw [ua_id] at this
    exact this
  refine ⟨g, ?_, P⟩
  rw [sg_J7_fill_53178_l_0, L, sg_J7_fill_53178_l_5, if_neg (by omega)]
theorem ev_fillw (v : Int) : ∃ g, cm_x 294 0 [some (.inr (.inr 21)), some (.inl (v)), none, none] [] (cm_hp D X) = some (.inl none, cm_hp (cm_ua D 21 g) X) ∧ ∀ n, 0 ≤ n → n < 13 → g n = v := by
  obtain ⟨g, L, P⟩ := lp_inv (X := fun i g => cm_x 294 5 [some (.inr (.inr 21)), some (.inl (v)), some (.inl (i)), some (.inl (13))] [] (cm_hp (cm_ua D 21 g) X)) (P := fun i g => ∀ n, 0 ≤ n → n < i → g n = v) (lo := 0) (hi := 13) (fun i g i0 i1 hP => by
    refine ⟨cm_u1 g i v, ?_, fun n n0 n1 => ?_⟩
    · show cm_x 294 5 [some (.inr (.inr 21)), some (.inl (v)), some (.inl (i)), some (.inl (13))] [] (cm_hp (cm_ua D 21 g) X) = cm_x 294 5 [some (.inr (.inr 21)), some (.inl (v)), some (.inl (i + 1)), some (.inl (13))] [] (cm_hp (cm_ua D 21 (cm_u1 g i v)) X)
      rw [sg_J7_fill_53178_w_5, if_pos i1, ck_t (by omega), up_to_ua, ua_ua, ua_same, cm_wr_id (by omega) (by omega)]
    · by_cases hn : n = i
      · rw [hn, u1_eq]
      · rw [u1_ne hn]; exact hP n n0 (by omega)) (D 21) (by omega) (fun n n0 n1 => by omega)
  have L : cm_x 294 5 [some (.inr (.inr 21)), some (.inl (v)), some (.inl (0)), some (.inl (13))] [] (cm_hp D X) = cm_x 294 5 [some (.inr (.inr 21)), some (.inl (v)), some (.inl (13)), some (.inl (13))] [] (cm_hp (cm_ua D 21 g) X) := by
    have := L
    rw [ua_id] at this
    exact this
  refine ⟨g, ?_, P⟩
  rw [sg_J7_fill_53178_w_0, L, sg_J7_fill_53178_w_5, if_neg (by omega)]
theorem ev_settle0 : ∃ g, cm_x 65 0 [some (.inr (.inr 15)), none] [] (cm_hp D X) = some (.inl none, cm_hp (cm_up (cm_ua D 18 g) 15 6 0) X) ∧ ∀ n, 0 ≤ n → n < 12 → g n = 0 := by
  obtain ⟨g, L, P⟩ := lp_inv (X := fun i g => cm_x 65 2 [some (.inr (.inr 15)), some (.inl (i))] [] (cm_hp (cm_ua D 18 g) X)) (P := fun i g => ∀ n, 0 ≤ n → n < i → g n = 0) (lo := 0) (hi := 12) (fun i g i0 i1 hP => by
    refine ⟨cm_u1 g i 0, ?_, fun n n0 n1 => ?_⟩
    · show cm_x 65 2 [some (.inr (.inr 15)), some (.inl (i))] [] (cm_hp (cm_ua D 18 g) X) = cm_x 65 2 [some (.inr (.inr 15)), some (.inl (i + 1))] [] (cm_hp (cm_ua D 18 (cm_u1 g i 0)) X)
      rw [sg_X6_settleChanges_2, if_pos i1, ck_t (by omega), up_to_ua, ua_ua, ua_same, cm_wr_id (by omega) (by omega)]
    · by_cases hn : n = i
      · rw [hn, u1_eq]
      · rw [u1_ne hn]; exact hP n n0 (by omega)) (D 18) (by omega) (fun n n0 n1 => by omega)
  have L : cm_x 65 2 [some (.inr (.inr 15)), some (.inl (0))] [] (cm_hp D X) = cm_x 65 2 [some (.inr (.inr 15)), some (.inl (12))] [] (cm_hp (cm_ua D 18 g) X) := by
    have := L
    rw [ua_id] at this
    exact this
  refine ⟨g, ?_, P⟩
  rw [sg_X6_settleChanges_0, L, sg_X6_settleChanges_2, if_neg (by omega)]
/-- no file is there, none is written, nothing has changed -/
def drQ (D D' : Nat → Int → Int) : Prop := (∀ n, 0 ≤ n → n < 12 → D' 16 n = 0 ∧ D' 17 n = 0 ∧ D' 18 n = 0) ∧ (∀ v, 0 ≤ v → v < 13 → D' 21 v = -1) ∧ D' 15 = cm_u1 (D 15) 6 0 ∧ ∀ x : Nat, x ≠ 15 → x ≠ 16 → x ≠ 17 → x ≠ 18 → x ≠ 21 → D' x = D x
theorem ev_drop : ∃ D', cm_x 64 0 [some (.inr (.inr 15))] [] (cm_hp D X) = some (.inl none, cm_hp D' X) ∧ drQ D D' := by
  obtain ⟨a, a1, a2⟩ := ev_fillv (D := D) (X := X) 0
  obtain ⟨c, c1, c2⟩ := ev_filll (D := cm_ua D 16 a) (X := X) 0
  obtain ⟨d, d1, d2⟩ := ev_fillw (D := cm_ua (cm_ua D 16 a) 17 c) (X := X) (-1)
  obtain ⟨e, e1, e2⟩ := ev_settle0 (D := cm_ua (cm_ua (cm_ua D 16 a) 17 c) 21 d) (X := X)
  refine ⟨cm_up (cm_ua (cm_ua (cm_ua (cm_ua D 16 a) 17 c) 21 d) 18 e) 15 6 0, ?_, ?_, ?_, ?_, ?_⟩
  · rw [sg_X6_dropFiles_0, a1, aft_n, sg_X6_dropFiles_8, c1, aft_n, sg_X6_dropFiles_16, d1, aft_n, sg_X6_dropFiles_24, e1, aft_n, sg_X6_dropFiles_28]
  · exact fun n n0 n1 => ⟨a2 n n0 n1, c2 n n0 n1, e2 n n0 n1⟩
  · exact fun v v0 v1 => d2 v v0 v1
  · rfl
  · intro x h1 h2 h3 h4 h5
    rw [up_row h1, ua_row h4, ua_row h5, ua_row h3, ua_row h2]
def nfQ (f f0 : Int → Int) : Prop := (∀ n, 0 ≤ n → n < 12 → f n = -1 ∧ f (12 + n) = 0 ∧ f (24 + n) = 0) ∧ (∀ v, 0 ≤ v → v < 13 → f (228 + v) = -1) ∧ f 241 = 0 ∧ ∀ j, 242 ≤ j → f j = f0 j
theorem ev_noFiles : ∃ f, cm_x 165 0 [some (.inr (.inr 617)), none] [] (cm_hp E X) = some (.inl none, cm_hp (cm_ua E 617 f) X) ∧ nfQ f (E 617) := by
  obtain ⟨f1, L1, P1, Q1⟩ := lp_inv (X := fun i g => cm_x 165 2 [some (.inr (.inr 617)), some (.inl (i))] [] (cm_hp (cm_ua E 617 g) X)) (P := fun i g => (∀ n, 0 ≤ n → n < i → g n = -1 ∧ g (12 + n) = 0 ∧ g (24 + n) = 0) ∧ ∀ j, 242 ≤ j → g j = E 617 j) (lo := 0) (hi := 12) (fun i g i0 i1 hP => by
    refine ⟨cm_u1 (cm_u1 (cm_u1 g i (-1)) (12 + i) 0) (24 + i) 0, ?_, fun n n0 n1 => ?_, fun j hj => ?_⟩
    · show cm_x 165 2 [some (.inr (.inr 617)), some (.inl (i))] [] (cm_hp (cm_ua E 617 g) X) = cm_x 165 2 [some (.inr (.inr 617)), some (.inl (i + 1))] [] (cm_hp (cm_ua E 617 (cm_u1 (cm_u1 (cm_u1 g i (-1)) (12 + i) 0) (24 + i) 0)) X)
      have w0 : cm_wr (0 + i) = i := by rw [Int.zero_add]; exact cm_wr_id (by omega) (by omega)
      rw [sg_X9_noFiles_n_2, if_pos i1, w0]
      simp (disch := omega) only [cm_wr_id, ck_t]
      simp only [up_to_ua, ua_ua, ua_same]
    · by_cases hn : n = i
      · subst hn
        simp (disch := omega) only [u1_ne, u1_eq]
        exact ⟨trivial, trivial, trivial⟩
      · simp (disch := omega) only [u1_ne]
        exact hP.1 n n0 (by omega)
    · simp (disch := omega) only [u1_ne]
      exact hP.2 j hj) (E 617) (by omega) ⟨fun n n0 n1 => by omega, fun _ _ => rfl⟩
  obtain ⟨f2, L2, P2, Q2⟩ := lp_inv (X := fun i g => cm_x 165 36 [some (.inr (.inr 617)), some (.inl (i))] [] (cm_hp (cm_ua E 617 g) X)) (P := fun i g => (∀ n, 0 ≤ n → n < 12 → g n = -1 ∧ g (12 + n) = 0 ∧ g (24 + n) = 0) ∧ ∀ j, 242 ≤ j → g j = E 617 j) (lo := 0) (hi := 96) (fun i g i0 i1 hP => by
    refine ⟨cm_u1 (cm_u1 g (36 + i) (-1)) (132 + i) 0, ?_, fun n n0 n1 => ?_, fun j hj => ?_⟩
    · show cm_x 165 36 [some (.inr (.inr 617)), some (.inl (i))] [] (cm_hp (cm_ua E 617 g) X) = cm_x 165 36 [some (.inr (.inr 617)), some (.inl (i + 1))] [] (cm_hp (cm_ua E 617 (cm_u1 (cm_u1 g (36 + i) (-1)) (132 + i) 0)) X)
      rw [sg_X9_noFiles_n_36, if_pos i1]
      simp (disch := omega) only [cm_wr_id, ck_t]
      simp only [up_to_ua, ua_ua, ua_same]
    · simp (disch := omega) only [u1_ne]
      exact hP.1 n n0 n1
    · simp (disch := omega) only [u1_ne]
      exact hP.2 j hj) f1 (by omega) ⟨P1, Q1⟩
  obtain ⟨f3, L3, P3, Q3, R3⟩ := lp_inv (X := fun i g => cm_x 165 65 [some (.inr (.inr 617)), some (.inl (i))] [] (cm_hp (cm_ua E 617 g) X)) (P := fun i g => (∀ n, 0 ≤ n → n < 12 → g n = -1 ∧ g (12 + n) = 0 ∧ g (24 + n) = 0) ∧ (∀ j, 242 ≤ j → g j = E 617 j) ∧ ∀ v, 0 ≤ v → v < i → g (228 + v) = -1) (lo := 0) (hi := 13) (fun i g i0 i1 hP => by
    refine ⟨cm_u1 g (228 + i) (-1), ?_, fun n n0 n1 => ?_, fun j hj => ?_, fun v v0 v1 => ?_⟩
    · show cm_x 165 65 [some (.inr (.inr 617)), some (.inl (i))] [] (cm_hp (cm_ua E 617 g) X) = cm_x 165 65 [some (.inr (.inr 617)), some (.inl (i + 1))] [] (cm_hp (cm_ua E 617 (cm_u1 g (228 + i) (-1))) X)
      rw [sg_X9_noFiles_n_65, if_pos i1]
      simp (disch := omega) only [cm_wr_id, ck_t]
      simp only [up_to_ua, ua_ua, ua_same]
    · simp (disch := omega) only [u1_ne]
      exact hP.1 n n0 n1
    · simp (disch := omega) only [u1_ne]
      exact hP.2.1 j hj
    · by_cases hv : v = i
      · rw [hv, u1_eq]
      · rw [u1_ne (by omega)]; exact hP.2.2 v v0 (by omega)) f2 (by omega) ⟨P2, Q2, fun v v0 v1 => by omega⟩
  refine ⟨cm_u1 f3 241 0, ?_, fun n n0 n1 => ?_, fun v v0 v1 => ?_, u1_eq, fun j hj => ?_⟩
  · have L1 : cm_x 165 2 [some (.inr (.inr 617)), some (.inl (0))] [] (cm_hp E X) = cm_x 165 2 [some (.inr (.inr 617)), some (.inl (12))] [] (cm_hp (cm_ua E 617 f1) X) := by
      have := L1
      rw [ua_id] at this
      exact this
    have L2 : cm_x 165 36 [some (.inr (.inr 617)), some (.inl (0))] [] (cm_hp (cm_ua E 617 f1) X) = cm_x 165 36 [some (.inr (.inr 617)), some (.inl (96))] [] (cm_hp (cm_ua E 617 f2) X) := L2
    have L3 : cm_x 165 65 [some (.inr (.inr 617)), some (.inl (0))] [] (cm_hp (cm_ua E 617 f2) X) = cm_x 165 65 [some (.inr (.inr 617)), some (.inl (13))] [] (cm_hp (cm_ua E 617 f3) X) := L3
    rw [sg_X9_noFiles_n_0, L1, sg_X9_noFiles_n_2, if_neg (by omega), L2, sg_X9_noFiles_n_36, if_neg (by omega), L3, sg_X9_noFiles_n_65, if_neg (by omega), up_to_ua, ua_ua, ua_same]
  · rw [u1_ne (by omega), u1_ne (by omega), u1_ne (by omega)]; exact P3 n n0 n1
  · rw [u1_ne (by omega)]; exact R3 v v0 v1
  · rw [u1_ne (by omega)]; exact Q3 j hj
/-- the virtual block of a name by a map -/
def vn (B : Int → Int) (m n : Int) : Int := if m = -1 then -1 else if B (15 * m) = -1 then -1 else B (15 * B (15 * m) + n)
theorem vn_ok (hg : gOk pk K B h) {m : Int} (hm : mpO K pk h m) {n : Int} (n0 : 0 ≤ n) (n1 : n < 12) : (vn B m n = -1 → en B m n = -1) ∧ (vn B m n ≠ -1 → m ≠ -1 ∧ B (15 * m) ≠ -1 ∧ (1 ≤ vn B m n ∧ vn B m n ≤ 12) ∧ en B m n = B (15 * m + vn B m n) ∧ en B m n ≠ -1 ∧ entOk K B (en B m n) m) := by
  unfold vn en mEnt
  by_cases h1 : m = -1
  · rw [if_pos h1, if_pos h1]
    exact ⟨fun _ => rfl, fun z => absurd rfl z⟩
  · rw [if_neg h1, if_neg h1]
    obtain ⟨⟨m0, m1⟩, mk, md, me, m3, -⟩ := mp_map hg hm h1
    by_cases h2 : B (15 * m) = -1
    · rw [if_pos h2, if_pos h2]
      exact ⟨fun _ => rfl, fun z => absurd rfl z⟩
    · rw [if_neg h2, if_neg h2]
      by_cases h3 : B (15 * B (15 * m) + n) = -1
      · rw [if_pos h3]
        exact ⟨fun _ => rfl, fun z => absurd h3 z⟩
      · rw [if_neg h3]
        have hv := ((md.resolve_left h2).2.2.1 n n0 n1).resolve_left h3
        have he := m3 h2 n n0 n1 h3
        exact ⟨fun z => absurd z h3, fun _ => ⟨h1, h2, by omega, rfl, he, (me _ hv.1 hv.2).resolve_left he⟩⟩
theorem ent_mono {e m m' : Int} (hm : m ≤ m') (ho : entOk K B e m) : entOk K B e m' := ⟨⟨ho.1.1, by have := ho.1.2; omega⟩, ho.2⟩
theorem dir_mono {e m m' : Int} (hm : m ≤ m') (ho : dirOk K B e m) : dirOk K B e m' := ⟨⟨ho.1.1, by have := ho.1.2; omega⟩, ho.2⟩
def ssn (B : Int → Int) (m : Int) : Int := if m = -1 then 0 else B (15 * m + 14)
/-- what is in mind behind a mounting: the class's State, the model's row -/
def mtS (B : Int → Int) (m : Int) (S S0 : Nat → Int → Int) : Prop := (∀ n, 0 ≤ n → n < 12 → S 1 n = (if vn B m n = -1 then 0 else vn B m n) ∧ S 2 n = (if vn B m n = -1 then 0 else B (15 * en B m n + 8)) ∧ S 3 n = 0) ∧ (∀ n c, 0 ≤ n → n < 12 → vn B m n ≠ -1 → 0 ≤ c → c < B (15 * en B m n + 8) → S 4 (n * 8 + c) = B (15 * en B m n + c) ∧ S 5 (n * 8 + c) = mCel B (en B m n) c) ∧ (∀ v, 0 ≤ v → v < 13 → S 6 v = tl B m v) ∧ S 0 6 = 0 ∧ S 0 7 = m ∧ S 0 8 = ssn B m ∧ S 0 9 = S0 0 9 ∧ S 0 10 = S0 0 10
def mtM (B : Int → Int) (m : Int) (f f0 : Int → Int) : Prop := (∀ n, 0 ≤ n → n < 12 → f n = vn B m n ∧ f (12 + n) = (if vn B m n = -1 then 0 else B (15 * en B m n + 8)) ∧ f (24 + n) = 0) ∧ (∀ n c, 0 ≤ n → n < 12 → vn B m n ≠ -1 → 0 ≤ c → c < B (15 * en B m n + 8) → f (36 + 8 * n + c) = B (15 * en B m n + c) ∧ f (132 + 8 * n + c) = mCel B (en B m n) c) ∧ (∀ v, 0 ≤ v → v < 13 → f (228 + v) = tl B m v) ∧ f 241 = 0 ∧ f 242 = m ∧ f 243 = ssn B m ∧ f 244 = f0 244 ∧ f 245 = f0 245
theorem mt_R (hg : gOk pk K B h) {m : Int} (hm : mpO K pk h m) {S S0 : Nat → Int → Int} {f f0 : Int → Int} (hS : mtS B m S S0) (hf : mtM B m f f0) (h9 : S0 0 9 = h) (h244 : f0 244 = h) (h245 : f0 245 = S0 0 10) (hi : i32 (S0 0 10)) : rS S f ∧ wS pk K B S := by
  obtain ⟨a1, a2, a3, a4, a5, a6, a7, a8⟩ := hS
  obtain ⟨b1, b2, b3, b4, b5, b6, b7, b8⟩ := hf
  have hh0 := hg.2.2.1
  have hmh : m ≤ h := by rcases hm with hm | ⟨⟨_, _⟩, _⟩ <;> omega
  constructor
  · refine ⟨fun n n0 n1 => ?_, fun n c n0 n1 c0 c1 => ?_, fun v v0 v1 => ?_, ?_, ?_, ?_, ?_, ?_⟩
    · obtain ⟨x1, x2, x3⟩ := a1 n n0 n1
      obtain ⟨y1, y2, y3⟩ := b1 n n0 n1
      obtain ⟨z1, z2⟩ := vn_ok hg hm n0 n1
      rw [x1, x2, x3, y1, y2, y3]
      by_cases hv : vn B m n = -1
      · rw [if_pos hv, if_pos hv, if_pos rfl]; exact ⟨hv, rfl, rfl⟩
      · have := (z2 hv).2.2.1
        rw [if_neg hv, if_neg hv, if_neg (by omega)]; exact ⟨rfl, rfl, rfl⟩
    · have x2 := (a1 n n0 n1).2.1
      by_cases hv : vn B m n = -1
      · rw [if_pos hv] at x2; omega
      · rw [if_neg hv] at x2
        rw [(a2 n c n0 n1 hv c0 (by omega)).1, (a2 n c n0 n1 hv c0 (by omega)).2, (b2 n c n0 n1 hv c0 (by omega)).1, (b2 n c n0 n1 hv c0 (by omega)).2]
        exact ⟨rfl, rfl⟩
    · rw [a3 v v0 v1, b3 v v0 v1]
    · rw [a4, b4]
    · rw [a5, b5]
    · rw [a6, b6]
    · rw [a7, b7, h9, h244]
    · rw [a8, b8, h245]
  · refine ⟨⟨Or.inl a4, fun n n0 n1 => ?_, fun n k n0 n1 k0 k1 => ?_⟩, ⟨by rw [a7, h9]; exact hh0, by rw [a7, h9, a5]; exact hm, fun n c n0 n1 c0 c1 => ?_, fun v v0 v1 => ?_, ?_, fun _ => ⟨fun hz n n0 n1 => ?_, fun hz n n0 n1 => ?_⟩, fun n n0 n1 hz _ => ?_⟩, by rw [a8]; exact hi⟩
    · obtain ⟨x1, x2, x3⟩ := a1 n n0 n1
      obtain ⟨z1, z2⟩ := vn_ok hg hm n0 n1
      rw [x1, x2, x3]
      by_cases hv : vn B m n = -1
      · rw [if_pos hv, if_pos hv]; exact ⟨by omega, by omega, Or.inl rfl, fun _ => ⟨rfl, rfl⟩⟩
      · obtain ⟨-, -, w1, -, -, w2⟩ := z2 hv
        have hl := ent_len hg w2 hmh
        rw [if_neg hv, if_neg hv]; exact ⟨by omega, hl, Or.inl rfl, fun z => by omega⟩
    · rw [(a1 n n0 n1).1, (a1 k k0 k1).1]
      obtain ⟨-, z2⟩ := vn_ok hg hm n0 n1
      obtain ⟨-, y2⟩ := vn_ok hg hm k0 k1
      by_cases hv : vn B m n = -1
      · rw [if_pos hv]; intro _ z; exact absurd rfl z
      · obtain ⟨w1, w2, w3, -⟩ := z2 hv
        rw [if_neg hv]
        by_cases hu : vn B m k = -1
        · rw [if_pos hu]; intro z z2; exact absurd z z2
        · rw [if_neg hu]
          intro hq _
          obtain ⟨⟨m0, m1⟩, mk, md, -⟩ := mp_map hg hm w1
          have hd := (md.resolve_left w2).2.2.2 n k n0 n1 k0 k1
          unfold vn at hq hv
          rw [if_neg w1, if_neg w2] at hq hv
          rw [if_neg w1, if_neg w2] at hq
          exact hd hq hv
    · have x2 := (a1 n n0 n1).2.1
      obtain ⟨-, z2⟩ := vn_ok hg hm n0 n1
      by_cases hv : vn B m n = -1
      · rw [if_pos hv] at x2; omega
      · obtain ⟨-, -, -, -, -, w2⟩ := z2 hv
        rw [if_neg hv] at x2
        rw [(a2 n c n0 n1 hv c0 (by omega)).1, a7, h9]
        obtain ⟨⟨q0, q1⟩, q2⟩ := w2.2.2 c c0 (by omega)
        have := w2.1.2
        exact Or.inr ⟨⟨q0, by omega⟩, q2⟩
    · rw [a3 v (by omega) v1, a7, h9]
      unfold tl
      by_cases h1 : m = -1
      · rw [if_pos h1]; exact Or.inl rfl
      · rw [if_neg h1]
        obtain ⟨-, -, -, me, -⟩ := mp_map hg hm h1
        exact (me v v0 v1).imp id (ent_mono hmh)
    · rw [a3 0 (by omega) (by omega), a7, h9]
      unfold tl
      by_cases h1 : m = -1
      · rw [if_pos h1]; exact Or.inl rfl
      · rw [if_neg h1, Int.add_zero]
        obtain ⟨-, -, md, -⟩ := mp_map hg hm h1
        exact md.imp id (dir_mono hmh)
    · rw [a3 0 (by omega) (by omega)] at hz
      rw [(a1 n n0 n1).1]
      have hv : vn B m n = -1 := by
        unfold vn
        unfold tl at hz
        by_cases h1 : m = -1
        · rw [if_pos h1]
        · rw [if_neg h1, Int.add_zero] at hz
          rw [if_neg h1, if_pos hz]
      rw [if_pos hv]
    · rw [a3 0 (by omega) (by omega)] at hz ⊢
      rw [(a1 n n0 n1).1]
      obtain ⟨-, z2⟩ := vn_ok hg hm n0 n1
      have hv : vn B m n = B (15 * tl B m 0 + n) := by
        unfold vn
        unfold tl at hz ⊢
        by_cases h1 : m = -1
        · rw [if_pos h1] at hz; exact absurd rfl hz
        · rw [if_neg h1, Int.add_zero] at hz ⊢
          rw [if_neg h1, if_neg hz]
      rw [← hv]
      by_cases hq : vn B m n = -1
      · rw [if_pos hq, if_pos rfl]; exact hq
      · have := (z2 hq).2.2.1
        rw [if_neg hq, if_neg (by omega)]
    · rw [(a1 n n0 n1).1] at hz ⊢
      obtain ⟨-, z2⟩ := vn_ok hg hm n0 n1
      by_cases hq : vn B m n = -1
      · rw [if_pos hq] at hz; exact absurd rfl hz
      · obtain ⟨w1, -, w3, w4, w5, -⟩ := z2 hq
        rw [if_neg hq, a3 _ (by omega) (by omega)]
        unfold tl
        rw [if_neg w1, ← w4]; exact w5
