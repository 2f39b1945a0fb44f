/-! queries along the maps; lie; pack; storms -/
variable {D E : Nat → Int → Int} {t h pk : Int} {K B : Int → Int}
/-- since when: the least k -/
def snc (B : Int → Int) (n c v : Int) : Nat → Int → Int → Int
  | 0, _, _ => -1
  | f + 1, m, k => if m = -1 then -1 else if mEnt B m n ≠ -1 ∧ c < B (15 * mEnt B m n + 8) ∧ mCel B (mEnt B m n) c = v then k else snc B n c v f (B (15 * m + 13)) (k + 1)
theorem ev_since {X : cm_X} (hd : dOk D K B h) {n c v : Int} (n0 : 0 ≤ n) (n1 : n < 12) (c0 : 0 ≤ c) : ∀ (f : Nat) (k m : Int), 0 ≤ k → k + f = 400 → mpO K (D 9 1) h m → cm_x 121 20 [some (.inr (.inr 0)), some (.inl (n)), some (.inl (c)), some (.inl (v)), some (.inl (m)), some (.inl (k)), none] [] (cm_hp D X) = some (.inl (some (.inl (snc B n c v f m k))), cm_hp D X) := by
  intro f
  induction f with
  | zero =>
    intro k m k0 kf _
    rw [sg_X8_since_20, if_neg (by omega)]
    rfl
  | succ f ih =>
    intro k m k0 kf hm
    have e : cm_wr (k + 1) = k + 1 := cm_wr_id (by omega) (by omega)
    rw [sg_X8_since_20, if_pos (by omega)]
    unfold snc
    by_cases h1 : m = -1
    · rw [if_pos h1, if_pos h1]
    · have hmh : m ≤ h := by rcases hm with hm | ⟨⟨_, _⟩, _⟩ <;> omega
      obtain ⟨⟨m0, m1⟩, mk, mo⟩ := mp_map (d_g hd) hm h1
      have hp := (mp_prev (d_g hd) hm h1).1
      have hnext : cm_x 23 0 [some (.inr (.inr 9)), some (.inl (m)), some (.inl (13))] [] (cm_hp D X) = some (.inl (some (.inl (B (15 * m + 13)))), cm_hp D X) := by rw [ev_toldBy hd.1, tb_map hd m0 m1 mk (by omega) (by omega)]
      rw [if_neg h1, if_neg h1, ev_entryBy hd hm n0 n1, aft_v, if_neg h1, sg_X8_since_44]
      by_cases he : mEnt B m n = -1
      · rw [he, ev_lengthOf hd.1, lo_none, aft_v, sg_X8_since_56, if_neg (by omega), hnext, aft_v, sg_X8_since_87, e, ih (k + 1) _ (by omega) (by omega) hp, if_neg (fun z => z.1 rfl)]
      · have eo := mEnt_ok (d_g hd) hm h1 n0 n1 he
        rw [ev_lenE hd eo hmh, aft_v, sg_X8_since_56]
        by_cases c1 : c < B (15 * mEnt B m n + 8)
        · rw [if_pos c1, ev_numberBy hd eo hmh c0 c1, aft_v, sg_X8_since_69]
          by_cases hv : mCel B (mEnt B m n) c = v
          · rw [if_pos hv, if_pos ⟨he, c1, hv⟩]
          · rw [if_neg hv, hnext, aft_v, sg_X8_since_87, e, ih (k + 1) _ (by omega) (by omega) hp, if_neg (fun z => hv z.2.2)]
        · rw [if_neg c1, hnext, aft_v, sg_X8_since_87, e, ih (k + 1) _ (by omega) (by omega) hp, if_neg (fun z => c1 z.2.1)]
theorem ev_mSince {X : cm_X} (hd : mdOk D h) {n c v : Int} (n0 : 0 ≤ n) (n1 : n < 12) (c0 : 0 ≤ c) : ∀ (f : Nat) (k m : Int), 0 ≤ k → k + f = 400 → m < f → mpO (D 619) (D 614 1) h m → cm_x 233 42 [some (.inr (.inr 613)), some (.inl (n)), some (.inl (c)), some (.inl (v)), some (.inl (k)), some (.inl (m)), none] [] (cm_hp D X) = some (.inl (some (.inl (snc (D 620) n c v f m k))), cm_hp D X) := by
  have hh := hd.1.2.2.2
  intro f
  induction f with
  | zero =>
    intro k m k0 kf mf hm
    rw [sg_X9_since_42, if_pos (by rcases hm with hm | ⟨⟨_, _⟩, _⟩ <;> omega)]
    rfl
  | succ f ih =>
    intro k m k0 kf mf hm
    have e : cm_wr (k + 1) = k + 1 := cm_wr_id (by omega) (by omega)
    rw [sg_X9_since_42]
    unfold snc
    by_cases h1 : m = -1
    · rw [if_pos h1, if_pos h1]
    · have hmh : m ≤ h := by rcases hm with hm | ⟨⟨_, _⟩, _⟩ <;> omega
      obtain ⟨⟨m0, m1⟩, mk, mo⟩ := mp_map hd.1 hm h1
      obtain ⟨hp, hl⟩ := mp_prev hd.1 hm h1
      rw [if_neg h1, if_neg h1, ev_mEntryBy hd hm h1 n0 n1, aft_v, sg_X9_since_55]
      by_cases he : mEnt (D 620) m n = -1
      · rw [if_pos he, ev_mTells m0 (by omega) (by omega) (by omega), aft_v, sg_X9_since_98, e, ih (k + 1) _ (by omega) (by omega) (by omega) hp, if_neg (fun z => z.1 he)]
      · have eo := mEnt_ok hd.1 hm h1 n0 n1 he
        have e1 := eo.1
        rw [if_neg he, ev_mMany (by omega) (by omega), aft_v, sg_X9_since_70]
        by_cases c1 : c < D 620 (15 * mEnt (D 620) m n + 8)
        · rw [if_pos c1, ev_mCellBy hd eo hmh c0 c1, aft_v, sg_X9_since_80]
          by_cases hv : mCel (D 620) (mEnt (D 620) m n) c = v
          · rw [if_pos hv, if_pos ⟨he, c1, hv⟩]
          · rw [if_neg hv, ev_mTells m0 (by omega) (by omega) (by omega), aft_v, sg_X9_since_98, e, ih (k + 1) _ (by omega) (by omega) (by omega) hp, if_neg (fun z => hv z.2.2)]
        · rw [if_neg c1, ev_mTells m0 (by omega) (by omega) (by omega), aft_v, sg_X9_since_98, e, ih (k + 1) _ (by omega) (by omega) (by omega) hp, if_neg (fun z => c1 z.2.1)]
theorem mp_lt (hd : dOk D K B h) {m : Int} (hm : mpO K pk h m) : m < 400 := by
  have := (d_g hd).2.2.2
  rcases hm with hm | ⟨⟨_, _⟩, _⟩ <;> omega
theorem q_since (hR : R D t) (X : cm_X) (n c v : Int) : QQ t D X (fun H => cm_x 121 0 [some (.inr (.inr 0)), some (.inl (n)), some (.inl (c)), some (.inl (v)), none, none, none] [] H) (fun H => cm_x 233 0 [some (.inr (.inr 613)), some (.inl (n)), some (.inl (c)), some (.inl (v)), none, none, none] [] H) 0 := by
  have hc := hR.1
  have hd := hc.1
  have hr := hc.2.2.2.2.1
  have e242 : (cm_up D 613 0 0) 617 242 = D 15 7 := hr.2.2.2.2.1
  have hmd : mdOk (cm_up D 613 0 0) (D 15 9) := Rc_md hc
  have hmq : mpO ((cm_up D 613 0 0) 619) ((cm_up D 613 0 0) 614 1) (D 15 9) (D 15 7) := by rw [← e242]; exact mp_617 hc
  have hl := mp_lt hd (mp_15 hc)
  by_cases h2 : 0 ≤ n ∧ n < 12
  · by_cases h3 : 0 ≤ c ∧ c < 8
    · refine QQ_s (v := snc (D 620) n c v 400 (D 15 7) 0) hR (fun X => ?_) (fun X => ?_)
      · show cm_x 121 0 [some (.inr (.inr 0)), some (.inl (n)), some (.inl (c)), some (.inl (v)), none, none, none] [] (cm_hp D X) = _
        rw [sg_X8_since_0, ev_cn, if_pos h2, aft_n, sg_X8_since_4, ev_cc, if_pos h3, aft_n, sg_X8_since_8, ev_since hd h2.1 h2.2 h3.1 400 0 _ (by omega) (by omega) (mp_15 hc)]
      · show cm_x 233 0 [some (.inr (.inr 613)), some (.inl (n)), some (.inl (c)), some (.inl (v)), none, none, none] [] (cm_hp D X) = _
        rw [sg_X9_since_0, ev_mName, if_pos h2, aft_v, sg_X9_since_10, if_neg (by omega), ev_isIn, if_pos (by omega), aft_v, sg_X9_since_20, if_neg (by omega), e242, ev_mSince hmd h2.1 h2.2 h3.1 400 0 _ (by omega) (by omega) (by omega) hmq]
        rfl
    · refine QQ_n hR (fun X => ?_) (fun X => ?_)
      · show cm_x 121 0 [some (.inr (.inr 0)), some (.inl (n)), some (.inl (c)), some (.inl (v)), none, none, none] [] (cm_hp D X) = _
        rw [sg_X8_since_0, ev_cn, if_pos h2, aft_n, sg_X8_since_4, ev_cc, if_neg h3, aft_e (y := 121) (p0 := 5) (e := 0) _ _ _ _ rfl]
      · show cm_x 233 0 [some (.inr (.inr 613)), some (.inl (n)), some (.inl (c)), some (.inl (v)), none, none, none] [] (cm_hp D X) = _
        rw [sg_X9_since_0, ev_mName, if_pos h2, aft_v, sg_X9_since_10, if_neg (by omega), ev_isIn, if_neg (by omega), aft_v, sg_X9_since_20, if_pos rfl, sg_X9_fail_0, aft_v, sg_X9_since_28]
  · refine QQ_n hR (fun X => ?_) (fun X => ?_)
    · show cm_x 121 0 [some (.inr (.inr 0)), some (.inl (n)), some (.inl (c)), some (.inl (v)), none, none, none] [] (cm_hp D X) = _
      rw [sg_X8_since_0, ev_cn, if_neg h2, aft_e (y := 121) (p0 := 1) (e := 0) _ _ _ _ rfl]
    · show cm_x 233 0 [some (.inr (.inr 613)), some (.inl (n)), some (.inl (c)), some (.inl (v)), none, none, none] [] (cm_hp D X) = _
      rw [sg_X9_since_0, ev_mName, if_neg h2, aft_v, sg_X9_since_10, if_pos rfl, sg_X9_fail_0, aft_v, sg_X9_since_28]
/-- a file in mind is like an entry -/
def alkS (D : Nat → Int → Int) (B : Int → Int) (n e : Int) : Prop := D 16 n ≠ 0 ∧ D 17 n = B (15 * e + 8) ∧ ∀ c, 0 ≤ c → c < D 17 n → D 20 (n * 8 + c) = mCel B e c
theorem ev_isLike {X : cm_X} (hd : dOk D K B h) (hn : nS (stt D 15)) {n e m : Int} (n0 : 0 ≤ n) (n1 : n < 12) (he : entOk K B e m) (hm : m ≤ h) : cm_x 91 0 [some (.inr (.inr 15)), some (.inl (n)), some (.inr (.inr 9)), some (.inl (e)), none] [] (cm_hp D X) = some (.inl (some (.inl (tv (alkS D B n e)))), cm_hp D X) := by
  have hl : 0 ≤ D 17 n ∧ D 17 n ≤ 8 := (hn.2.1 n n0 n1).2.1
  rw [sg_X6_isLike_0, ev_has, aft_v, sg_X6_isLike_5]
  by_cases hv : D 16 n = 0
  · have eh : cHas D n = 0 := by unfold cHas; rw [if_neg (fun z => z.2.2 hv)]
    rw [eh, if_pos rfl, tv_f (fun z => z.1 hv)]
  · have eh : cHas D n = 1 := by unfold cHas; rw [if_pos ⟨n0, n1, hv⟩]
    rw [eh, if_neg (by omega), ck_t (by omega), ev_lenE hd he hm, aft_v, sg_X6_isLike_19]
    by_cases h1 : D 17 n = B (15 * e + 8)
    · rw [if_pos h1]
      have L := lp_exi (lo := 0) (hi := D 17 n) (X := fun j => cm_x 91 27 [some (.inr (.inr 15)), some (.inl (n)), some (.inr (.inr 9)), some (.inl (e)), some (.inl (j))] [] (cm_hp D X)) (p := fun c => D 20 (n * 8 + c) ≠ mCel B e c) (T := some (.inl (some (.inl (0))), cm_hp D X)) (F := some (.inl (some (.inl (1))), cm_hp D X)) (by omega) (fun j a1 a2 => by
        have ee : cm_wr (j + 1) = j + 1 := cm_wr_id (by omega) (by omega)
        have en : cm_x 72 0 [some (.inr (.inr 15)), some (.inl (n)), some (.inl (j))] [] (cm_hp D X) = some (.inl (some (.inl (D 20 (n * 8 + j)))), cm_hp D X) := by
          rw [sg_X6_numberOf_0]
          simp (disch := omega) only [cm_wr_id, ck_t]
        refine ⟨fun hp => ?_, fun hp => ?_⟩
        · show cm_x 91 27 [some (.inr (.inr 15)), some (.inl (n)), some (.inr (.inr 9)), some (.inl (e)), some (.inl (j))] [] (cm_hp D X) = _
          rw [sg_X6_isLike_27, ck_t (by omega), if_pos a2, en, aft_v, sg_X6_isLike_45, ev_numberBy hd he hm a1 (by omega), aft_v, sg_X6_isLike_52, if_neg hp]
        · show cm_x 91 27 [some (.inr (.inr 15)), some (.inl (n)), some (.inr (.inr 9)), some (.inl (e)), some (.inl (j))] [] (cm_hp D X) = cm_x 91 27 [some (.inr (.inr 15)), some (.inl (n)), some (.inr (.inr 9)), some (.inl (e)), some (.inl (j + 1))] [] (cm_hp D X)
          rw [sg_X6_isLike_27, ck_t (by omega), if_pos a2, en, aft_v, sg_X6_isLike_45, ev_numberBy hd he hm a1 (by omega), aft_v, sg_X6_isLike_52, if_pos (Classical.not_not.mp hp), ee]) (by
        show cm_x 91 27 [some (.inr (.inr 15)), some (.inl (n)), some (.inr (.inr 9)), some (.inl (e)), some (.inl (D 17 n))] [] (cm_hp D X) = _
        rw [sg_X6_isLike_27, ck_t (by omega), if_neg (by omega)])
      by_cases hx : ∃ c, 0 ≤ c ∧ c < D 17 n ∧ D 20 (n * 8 + c) ≠ mCel B e c
      · rw [tv_f]
        · exact L.1 hx
        · rintro ⟨-, -, g⟩
          obtain ⟨j, a1, a2, a3⟩ := hx
          exact a3 (g j a1 a2)
      · rw [tv_t]
        · exact L.2 hx
        · exact ⟨hv, h1, fun c c0 c1 => Classical.not_not.mp fun hc => hx ⟨c, c0, c1, hc⟩⟩
    · rw [if_neg h1, tv_f (fun g => h1 g.2.1)]
def alkM (r B : Int → Int) (n e : Int) : Prop := r n ≠ -1 ∧ B (15 * e + 8) = r (12 + n) ∧ ∀ c, 0 ≤ c → c < r (12 + n) → mCel B e c = r (132 + 8 * n + c)
theorem ev_mMind {X : cm_X} (hd : mdOk D h) (hmo : mOk (D 617)) {n e m : Int} (n0 : 0 ≤ n) (n1 : n < 12) (he : entOk (D 619) (D 620) e m) (hm : m ≤ h) : cm_x 234 0 [some (.inr (.inr 613)), some (.inl (e)), some (.inl (n)), none, none] [] (cm_hp D X) = some (.inl (some (.inl (tv (alkM (D 617) (D 620) n e)))), cm_hp D X) := by
  have hl := hmo n n0 n1
  have hh := hd.1.2.2.2
  have e1 := he.1
  have w0 : cm_wr (0 + n) = n := by rw [Int.zero_add]; exact cm_wr_id (by omega) (by omega)
  have w12 : cm_wr (12 + n) = 12 + n := cm_wr_id (by omega) (by omega)
  rw [sg_X9_isAsInMind_0, if_neg (by omega), w0, ck_t (by omega)]
  by_cases hv : D 617 n = -1
  · rw [if_pos hv, if_neg (by omega), tv_f (fun z => z.1 hv)]
  · rw [if_neg hv, ev_mMany (by omega) (by omega), aft_v, sg_X9_isAsInMind_45, w12, ck_t (by omega)]
    by_cases h1 : D 620 (15 * e + 8) = D 617 (12 + n)
    · rw [if_pos h1]
      have L := lp_exi (lo := 0) (hi := D 617 (12 + n)) (X := fun j => cm_x 234 66 [some (.inr (.inr 613)), some (.inl (e)), some (.inl (n)), some (.inl (1)), some (.inl (j))] [] (cm_hp D X)) (p := fun c => mCel (D 620) e c ≠ D 617 (132 + 8 * n + c)) (T := some (.inl (some (.inl (0))), cm_hp D X)) (F := some (.inl (some (.inl (1))), cm_hp D X)) (by omega) (fun j a1 a2 => by
        have ee : cm_wr (j + 1) = j + 1 := cm_wr_id (by omega) (by omega)
        have e8 : cm_wr (8 * n) = 8 * n := cm_wr_id (by omega) (by omega)
        have e132 : cm_wr (132 + 8 * n) = 132 + 8 * n := cm_wr_id (by omega) (by omega)
        have ej : cm_wr (132 + 8 * n + j) = 132 + 8 * n + j := cm_wr_id (by omega) (by omega)
        refine ⟨fun hp => ?_, fun hp => ?_⟩
        · show cm_x 234 66 [some (.inr (.inr 613)), some (.inl (e)), some (.inl (n)), some (.inl (1)), some (.inl (j))] [] (cm_hp D X) = _
          rw [sg_X9_isAsInMind_66, if_neg (by omega), w12, ck_t (by omega), if_pos a2, ev_mCellBy hd he hm a1 (by omega), aft_v, sg_X9_isAsInMind_91, e8, e132, ej, ck_t (by omega), if_neg hp, sg_X9_isAsInMind_66, if_pos rfl, ck_t (Or.inl rfl)]
        · show cm_x 234 66 [some (.inr (.inr 613)), some (.inl (e)), some (.inl (n)), some (.inl (1)), some (.inl (j))] [] (cm_hp D X) = cm_x 234 66 [some (.inr (.inr 613)), some (.inl (e)), some (.inl (n)), some (.inl (1)), some (.inl (j + 1))] [] (cm_hp D X)
          rw [sg_X9_isAsInMind_66, if_neg (by omega), w12, ck_t (by omega), if_pos a2, ev_mCellBy hd he hm a1 (by omega), aft_v, sg_X9_isAsInMind_91, e8, e132, ej, ck_t (by omega), if_pos (Classical.not_not.mp hp), ee]) (by
        show cm_x 234 66 [some (.inr (.inr 613)), some (.inl (e)), some (.inl (n)), some (.inl (1)), some (.inl (D 617 (12 + n)))] [] (cm_hp D X) = _
        rw [sg_X9_isAsInMind_66, if_neg (by omega), w12, ck_t (by omega), if_neg (by omega), ck_t (Or.inr rfl)])
      by_cases hx : ∃ c, 0 ≤ c ∧ c < D 617 (12 + n) ∧ mCel (D 620) e c ≠ D 617 (132 + 8 * n + c)
      · rw [tv_f]
        · exact L.1 hx
        · rintro ⟨-, -, g⟩
          obtain ⟨j, a1, a2, a3⟩ := hx
          exact a3 (g j a1 a2)
      · rw [tv_t]
        · exact L.2 hx
        · exact ⟨hv, h1, fun c c0 c1 => Classical.not_not.mp fun hc => hx ⟨c, c0, c1, hc⟩⟩
    · rw [if_neg h1, sg_X9_isAsInMind_66, if_pos rfl, ck_t (Or.inl rfl), tv_f (fun g => h1 g.2.1)]
theorem or_b (a b : Int) : -2147483648 ≤ cm_or a b ∧ cm_or a b < 2147483648 := by
  unfold cm_or
  exact ⟨Int32.le_toInt _, Int32.toInt_lt _⟩
theorem or_0 {a : Int} (h0 : -2147483648 ≤ a) (h1 : a < 2147483648) : cm_or a 0 = a := by
  unfold cm_or
  have e : Int32.ofInt 0 = 0 := rfl
  rw [e, Int32.or_zero]
  exact cm_ofI h0 h1
/-- like ones, as bits -/
noncomputable def alB (p : Int → Prop) : Nat → Int
  | 0 => 0
  | k + 1 => if tv (p k) = 0 then alB p k else cm_or (alB p k) (cm_shl 1 k)
theorem alB_b (p : Int → Prop) : ∀ k, -2147483648 ≤ alB p k ∧ alB p k < 2147483648 := by
  intro k
  induction k with
  | zero => exact ⟨by unfold alB; omega, by unfold alB; omega⟩
  | succ k ih =>
    unfold alB
    by_cases h : tv (p k) = 0
    · rw [if_pos h]; exact ih
    · rw [if_neg h]; exact or_b _ _
theorem alB_c {p q : Int → Prop} : ∀ {k : Nat}, (∀ n : Int, 0 ≤ n → n < k → (p n ↔ q n)) → alB p k = alB q k := by
  intro k
  induction k with
  | zero => intro _; rfl
  | succ k ih =>
    intro hq
    show (if tv (p k) = 0 then alB p k else cm_or (alB p k) (cm_shl 1 k)) = (if tv (q k) = 0 then alB q k else cm_or (alB q k) (cm_shl 1 k))
    rw [ih (fun n a b => hq n a (by omega)), tv_c (hq k (by omega) (by omega))]
def alkC (D : Nat → Int → Int) (B : Int → Int) (m n : Int) : Prop := if mEnt B m n = -1 then D 16 n = 0 else alkS D B n (mEnt B m n)
def alkN (r B : Int → Int) (m n : Int) : Prop := if mEnt B m n = -1 then r n = -1 else alkM r B n (mEnt B m n)
theorem ev_alike {X : cm_X} (hd : dOk D K B h) (hn : nS (stt D 15)) {k m : Int} (hm : mpO K (D 9 1) h m) (h1 : m ≠ -1) : cm_x 122 11 [some (.inr (.inr 0)), some (.inl (k)), some (.inl (m)), some (.inl (0)), some (.inl (0)), none, none] [] (cm_hp D X) = some (.inl (some (.inl (alB (alkC D B m) 12))), cm_hp D X) := by
  have hmh : m ≤ h := by rcases hm with hm | ⟨⟨_, _⟩, _⟩ <;> omega
  have L := lp_fn (n := 12) (X := fun n b => cm_x 122 11 [some (.inr (.inr 0)), some (.inl (k)), some (.inl (m)), some (.inl (b)), some (.inl (n)), none, none] [] (cm_hp D X)) (F := fun n => alB (alkC D B m) n) (fun n hn1 => by
    show cm_x 122 11 [some (.inr (.inr 0)), some (.inl (k)), some (.inl (m)), some (.inl (alB (alkC D B m) n)), some (.inl ((n : Int))), none, none] [] (cm_hp D X) = cm_x 122 11 [some (.inr (.inr 0)), some (.inl (k)), some (.inl (m)), some (.inl (alB (alkC D B m) (n + 1))), some (.inl ((n : Int) + 1)), none, none] [] (cm_hp D X)
    have e : cm_wr ((n : Int) + 1) = (n : Int) + 1 := cm_wr_id (by omega) (by omega)
    have ez : alB (alkC D B m) (n + 1) = if tv (alkC D B m n) = 0 then alB (alkC D B m) n else cm_or (alB (alkC D B m) n) (cm_shl 1 n) := rfl
    rw [sg_X8_alike_11, if_pos (by omega), ev_entryBy hd hm (by omega) (by omega), if_neg h1, aft_v, sg_X8_alike_28, ez]
    by_cases he : mEnt B m n = -1
    · have ea : alkC D B m n = (D 16 n = 0) := by unfold alkC; rw [if_pos he]
      rw [if_pos he, ev_has, aft_v, sg_X8_alike_45, ea]
      by_cases hv : D 16 n = 0
      · have eh : cHas D n = 0 := by unfold cHas; rw [if_neg (fun z => z.2.2 hv)]
        rw [eh, if_pos rfl, sg_X8_alike_71_2, e, tv_t hv, if_neg (by omega)]
      · have eh : cHas D n = 1 := by unfold cHas; rw [if_pos ⟨by omega, by omega, hv⟩]
        rw [eh, if_neg (by omega), sg_X8_alike_71_1, e, tv_f hv, if_pos rfl]
    · have ea : alkC D B m n = alkS D B n (mEnt B m n) := by unfold alkC; rw [if_neg he]
      rw [if_neg he, ev_isLike hd hn (by omega) (by omega) (mEnt_ok (d_g hd) hm h1 (by omega) (by omega) he) hmh, aft_v, sg_X8_alike_71, e, ea]
      by_cases hz : tv (alkS D B n (mEnt B m n)) = 0
      · rw [if_pos hz, if_pos hz]
      · rw [if_neg hz, if_neg hz])
  refine Eq.trans L ?_
  show cm_x 122 11 [some (.inr (.inr 0)), some (.inl (k)), some (.inl (m)), some (.inl (alB (alkC D B m) 12)), some (.inl (((12 : Nat) : Int))), none, none] [] (cm_hp D X) = _
  rw [sg_X8_alike_11, if_neg (by omega)]
theorem ev_mAlk {X : cm_X} (hd : mdOk D h) (hmo : mOk (D 617)) {k m : Int} (hm : mpO (D 619) (D 614 1) h m) (h1 : m ≠ -1) : cm_x 235 27 [some (.inr (.inr 613)), some (.inl (k)), some (.inl (m)), some (.inl (0)), some (.inl (0))] [] (cm_hp D X) = some (.inl (some (.inl (alB (alkN (D 617) (D 620) m) 12))), cm_hp D X) := by
  have hmh : m ≤ h := by rcases hm with hm | ⟨⟨_, _⟩, _⟩ <;> omega
  have L := lp_fn (n := 12) (X := fun n b => cm_x 235 27 [some (.inr (.inr 613)), some (.inl (k)), some (.inl (m)), some (.inl (b)), some (.inl (n))] [] (cm_hp D X)) (F := fun n => alB (alkN (D 617) (D 620) m) n) (fun n hn1 => by
    show cm_x 235 27 [some (.inr (.inr 613)), some (.inl (k)), some (.inl (m)), some (.inl (alB (alkN (D 617) (D 620) m) n)), some (.inl ((n : Int)))] [] (cm_hp D X) = cm_x 235 27 [some (.inr (.inr 613)), some (.inl (k)), some (.inl (m)), some (.inl (alB (alkN (D 617) (D 620) m) (n + 1))), some (.inl ((n : Int) + 1))] [] (cm_hp D X)
    have e : cm_wr ((n : Int) + 1) = (n : Int) + 1 := cm_wr_id (by omega) (by omega)
    have w0 : cm_wr (0 + (n : Int)) = n := by rw [Int.zero_add]; exact cm_wr_id (by omega) (by omega)
    have hb := alB_b (alkN (D 617) (D 620) m) n
    have ez : alB (alkN (D 617) (D 620) m) (n + 1) = if tv (alkN (D 617) (D 620) m n) = 0 then alB (alkN (D 617) (D 620) m) n else cm_or (alB (alkN (D 617) (D 620) m) n) (cm_shl 1 n) := rfl
    rw [sg_X9_alike_27, if_pos (by omega), ev_mEntryBy hd hm h1 (by omega) (by omega), aft_v, sg_X9_alike_43, ez]
    by_cases he : mEnt (D 620) m n = -1
    · have ea : alkN (D 617) (D 620) m n = (D 617 n = -1) := by unfold alkN; rw [if_pos he]
      rw [he, sg_X9_isAsInMind_0, if_pos rfl, if_pos rfl, w0, ck_t (by omega), ea]
      by_cases hv : D 617 n = -1
      · rw [if_pos hv, aft_v, sg_X9_alike_48, if_neg (by omega), e, tv_t hv, if_neg (by omega)]
      · rw [if_neg hv, aft_v, sg_X9_alike_48, if_pos rfl, e, tv_f hv, if_pos rfl, or_0 hb.1 hb.2]
    · have ea : alkN (D 617) (D 620) m n = alkM (D 617) (D 620) n (mEnt (D 620) m n) := by unfold alkN; rw [if_neg he]
      rw [ev_mMind hd hmo (by omega) (by omega) (mEnt_ok hd.1 hm h1 (by omega) (by omega) he) hmh, aft_v, sg_X9_alike_48, e, ea]
      by_cases hz : tv (alkM (D 617) (D 620) n (mEnt (D 620) m n)) = 0
      · rw [if_pos hz, if_pos hz, or_0 hb.1 hb.2]
      · rw [if_neg hz, if_neg hz])
  refine Eq.trans L ?_
  show cm_x 235 27 [some (.inr (.inr 613)), some (.inl (k)), some (.inl (m)), some (.inl (alB (alkN (D 617) (D 620) m) 12)), some (.inl (((12 : Nat) : Int)))] [] (cm_hp D X) = _
  rw [sg_X9_alike_27, if_neg (by omega)]
theorem q_alike (hR : R D t) (X : cm_X) {k : Int} (hk : i32 k) : QQ t D X (fun H => cm_x 122 0 [some (.inr (.inr 0)), some (.inl (k)), none, none, none, none, none] [] H) (fun H => cm_x 235 0 [some (.inr (.inr 613)), some (.inl (k)), none, none, none] [] H) 0 := by
  have hc := hR.1
  have hd := hc.1
  have hr := hc.2.2.2.2.1
  have hn := hc.2.2.2.2.2.1
  have e242 : D 617 242 = D 15 7 := hr.2.2.2.2.1
  have epk : D 614 1 = D 9 1 := hc.2.1 1 (by omega) (by omega)
  have hmo : mOk ((cm_up D 613 0 0) 617) := mo_617 hc
  have hmd : mdOk (cm_up D 613 0 0) (D 15 9) := Rc_md hc
  have hmq : mpO ((cm_up D 613 0 0) 619) ((cm_up D 613 0 0) 614 1) (D 15 9) ((cm_up D 613 0 0) 617 242) := mp_617 hc
  have emb : (if k < 0 then -1 else alg ((cm_up D 613 0 0) 620) k.toNat ((cm_up D 613 0 0) 617 242)) = (if k < 0 then -1 else alg (D 620) k.toNat (D 15 7)) := by
    show (if k < 0 then -1 else alg (D 620) k.toNat (D 617 242)) = _
    rw [e242]
  have hm : mpO (D 619) (D 9 1) (D 15 9) (if k < 0 then -1 else alg (D 620) k.toNat (D 15 7)) := by
    by_cases h0 : k < 0
    · rw [if_pos h0]; exact Or.inl rfl
    · rw [if_neg h0]; exact alg_ok (d_g hd) _ (mp_15 hc)
  have cm := fun X => ev_mapOr (X := X) hc hk.2
  have mm := fun X => ev_mapBack (X := X) hmd hmq hk.2
  rw [emb] at mm
  generalize (if k < 0 then -1 else alg (D 620) k.toNat (D 15 7)) = m at hm cm mm
  by_cases h1 : m = -1
  · refine QQ_n hR (fun X => ?_) (fun X => ?_)
    · show cm_x 122 0 [some (.inr (.inr 0)), some (.inl (k)), none, none, none, none, none] [] (cm_hp D X) = _
      rw [sg_X8_alike_0, cm, if_pos h1, aft_e (y := 122) (p0 := 2) (e := 0) _ _ _ _ rfl]
    · show cm_x 235 0 [some (.inr (.inr 613)), some (.inl (k)), none, none, none] [] (cm_hp D X) = _
      rw [sg_X9_alike_0, mm, aft_v, sg_X9_alike_10, if_pos h1, sg_X9_fail_0, aft_v, sg_X9_alike_21]
  · have hmm : mpO ((cm_up D 613 0 0) 619) ((cm_up D 613 0 0) 614 1) (D 15 9) m := by
      show mpO (D 619) (D 614 1) (D 15 9) m
      rw [epk]; exact hm
    refine QQ_s (v := alB (alkC D (D 620) m) 12) hR (fun X => ?_) (fun X => ?_)
    · show cm_x 122 0 [some (.inr (.inr 0)), some (.inl (k)), none, none, none, none, none] [] (cm_hp D X) = _
      rw [sg_X8_alike_0, cm, if_neg h1, aft_v, sg_X8_alike_5, ev_alike hd hn hm h1]
    · show cm_x 235 0 [some (.inr (.inr 613)), some (.inl (k)), none, none, none] [] (cm_hp D X) = _
      rw [sg_X9_alike_0, mm, aft_v, sg_X9_alike_10, if_neg h1, ev_mAlk hmd hmo hmm h1]
      show (some (.inl (some (.inl (alB (alkN (D 617) (D 620) m) 12))), _) : cm_R) = _
      rw [alB_c (p := alkN (D 617) (D 620) m) (q := alkC D (D 620) m) (k := 12)]
      intro n n0 n1
      have n1 : n < 12 := by omega
      obtain ⟨r1, r2, -⟩ := hr.1 n n0 n1
      have r1 : D 617 n = (if D 16 n = 0 then -1 else D 16 n) := r1
      have r2 : D 617 (12 + n) = D 17 n := r2
      have hv : 0 ≤ D 16 n := (hn.2.1 n n0 n1).1.1
      unfold alkN alkC
      by_cases he : mEnt (D 620) m n = -1
      · rw [if_pos he, if_pos he, r1]
        by_cases hz : D 16 n = 0
        · rw [if_pos hz]; exact ⟨fun _ => hz, fun _ => rfl⟩
        · rw [if_neg hz]; exact ⟨fun z => by omega, fun z => absurd z hz⟩
      · rw [if_neg he, if_neg he]
        unfold alkM alkS
        rw [r2, r1]
        refine ⟨fun ⟨a1, a2, a3⟩ => ⟨?_, a2.symm, fun c c0 c1 => ?_⟩, fun ⟨a1, a2, a3⟩ => ⟨?_, a2.symm, fun c c0 c1 => ?_⟩⟩
        · intro hz; rw [if_pos hz] at a1; exact a1 rfl
        · rw [a3 c c0 c1]; exact ((hr.2.1 n c n0 n1 c0 c1).2).symm
        · rw [if_neg a1]; omega
        · rw [← a3 c c0 c1]; exact ((hr.2.1 n c n0 n1 c0 c1).2).symm
