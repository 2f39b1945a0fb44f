/-! how a file lies; packs; storms; apart -/
variable {D E : Nat → Int → Int} {t h pk : Int} {K B : Int → Int}
def ah (f : Int → Int) : Nat → Int
  | 0 => -1
  | k + 1 => f k
def rnF (f : Int → Int) : Nat → Int
  | 0 => 0
  | k + 1 => if f k = -1 then rnF f k else if ah f k = -1 then cm_wr (rnF f k + 1) else if f k = cm_wr (ah f k + 1) then rnF f k else cm_wr (rnF f k + 1)
def faF (f : Int → Int) : Nat → Int
  | 0 => 0
  | k + 1 => if f k = -1 then faF f k else if ah f k = -1 then faF f k else cm_mx (faF f k) (if 0 ≤ cm_wr (f k - ah f k) then cm_wr (f k - ah f k) else cm_wr (0 - cm_wr (f k - ah f k)))
theorem rnF_s (f : Int → Int) (k : Nat) : rnF f (k + 1) = if f k = -1 then rnF f k else if ah f k = -1 then cm_wr (rnF f k + 1) else if f k = cm_wr (ah f k + 1) then rnF f k else cm_wr (rnF f k + 1) := rfl
theorem faF_s (f : Int → Int) (k : Nat) : faF f (k + 1) = if f k = -1 then faF f k else if ah f k = -1 then faF f k else cm_mx (faF f k) (if 0 ≤ cm_wr (f k - ah f k) then cm_wr (f k - ah f k) else cm_wr (0 - cm_wr (f k - ah f k))) := rfl
theorem rnF_b (f : Int → Int) : ∀ k : Nat, k ≤ 8 → 0 ≤ rnF f k ∧ rnF f k ≤ k := by
  intro k
  induction k with
  | zero => intro _; exact ⟨Int.le_refl _, Int.le_refl _⟩
  | succ k ih =>
    intro hk
    have ih := ih (by omega)
    have e : cm_wr (rnF f k + 1) = rnF f k + 1 := cm_wr_id (by omega) (by omega)
    rw [rnF_s, e]
    omega
theorem ah_c {f g : Int → Int} {k : Nat} (hq : ∀ c : Int, 0 ≤ c → c < k → f c = g c) : ah f k = ah g k := by
  cases k with
  | zero => rfl
  | succ k => exact hq k (by omega) (by omega)
theorem rnF_c {f g : Int → Int} : ∀ {k : Nat}, (∀ c : Int, 0 ≤ c → c < k → f c = g c) → rnF f k = rnF g k := by
  intro k
  induction k with
  | zero => intro _; rfl
  | succ k ih =>
    intro hq
    rw [rnF_s, rnF_s, ih (fun c a b => hq c a (by omega)), hq k (by omega) (by omega), ah_c (f := f) (g := g) (fun c a b => hq c a (by omega))]
theorem faF_c {f g : Int → Int} : ∀ {k : Nat}, (∀ c : Int, 0 ≤ c → c < k → f c = g c) → faF f k = faF g k := by
  intro k
  induction k with
  | zero => intro _; rfl
  | succ k ih =>
    intro hq
    rw [faF_s, faF_s, ih (fun c a b => hq c a (by omega)), hq k (by omega) (by omega), ah_c (f := f) (g := g) (fun c a b => hq c a (by omega))]
theorem ev_blk {X : cm_X} {n c : Int} (n0 : 0 ≤ n) (n1 : n < 12) (c0 : 0 ≤ c) (c1 : c < 8) : cm_x 71 0 [some (.inr (.inr 15)), some (.inl (n)), some (.inl (c))] [] (cm_hp D X) = some (.inl (some (.inl (D 19 (n * 8 + c)))), cm_hp D X) := by
  rw [sg_X6_blockOf_0]
  simp (disch := omega) only [cm_wr_id, ck_t]
theorem ev_runs {X : cm_X} {n : Int} (n0 : 0 ≤ n) (n1 : n < 12) (hl : 0 ≤ D 17 n ∧ D 17 n ≤ 8) : cm_x 92 0 [some (.inr (.inr 15)), some (.inl (n)), none, none, none, none] [] (cm_hp D X) = some (.inl (some (.inl (rnF (fun c => D 19 (n * 8 + c)) (D 17 n).toNat))), cm_hp D X) := by
  rw [sg_X6_runs_0]
  have L := lp_fn (n := (D 17 n).toNat) (X := fun c (s : Int × Int) => cm_x 92 7 [some (.inr (.inr 15)), some (.inl (n)), some (.inl (s.1)), some (.inl (s.2)), some (.inl (c)), none] [] (cm_hp D X)) (F := fun k => (rnF (fun c => D 19 (n * 8 + c)) k, ah (fun c => D 19 (n * 8 + c)) k)) (fun k hk => by
    show cm_x 92 7 [some (.inr (.inr 15)), some (.inl (n)), some (.inl (rnF (fun c => D 19 (n * 8 + c)) k)), some (.inl (ah (fun c => D 19 (n * 8 + c)) k)), some (.inl ((k : Int))), none] [] (cm_hp D X) = cm_x 92 7 [some (.inr (.inr 15)), some (.inl (n)), some (.inl (rnF (fun c => D 19 (n * 8 + c)) (k + 1))), some (.inl (D 19 (n * 8 + (k : Int)))), some (.inl ((k : Int) + 1)), none] [] (cm_hp D X)
    have e : cm_wr ((k : Int) + 1) = (k : Int) + 1 := cm_wr_id (by omega) (by omega)
    rw [sg_X6_runs_7, ck_t (by omega), if_pos (by omega), ev_blk n0 n1 (by omega) (by omega), aft_v, sg_X6_runs_25, e, rnF_s]
    by_cases a1 : D 19 (n * 8 + (k : Int)) = -1
    · rw [if_pos a1, if_pos a1]
    · rw [if_neg a1, if_neg a1]
      by_cases a2 : ah (fun c => D 19 (n * 8 + c)) k = -1
      · rw [if_pos a2, if_pos a2]
      · rw [if_neg a2, if_neg a2]
        by_cases a3 : D 19 (n * 8 + (k : Int)) = cm_wr (ah (fun c => D 19 (n * 8 + c)) k + 1)
        · rw [if_pos a3, if_pos a3]
        · rw [if_neg a3, if_neg a3])
  refine Eq.trans L ?_
  show cm_x 92 7 [some (.inr (.inr 15)), some (.inl (n)), some (.inl (rnF (fun c => D 19 (n * 8 + c)) (D 17 n).toNat)), some (.inl (ah (fun c => D 19 (n * 8 + c)) (D 17 n).toNat)), some (.inl (((D 17 n).toNat : Int))), none] [] (cm_hp D X) = _
  rw [sg_X6_runs_7, ck_t (by omega), if_neg (by omega)]
theorem ev_far {X : cm_X} {n : Int} (n0 : 0 ≤ n) (n1 : n < 12) (hl : 0 ≤ D 17 n ∧ D 17 n ≤ 8) : cm_x 93 0 [some (.inr (.inr 15)), some (.inl (n)), none, none, none, none] [] (cm_hp D X) = some (.inl (some (.inl (faF (fun c => D 19 (n * 8 + c)) (D 17 n).toNat))), cm_hp D X) := by
  rw [sg_X6_farthest_0]
  by_cases h0 : D 17 n = 0
  · rw [sg_X6_farthest_4, ck_t (by omega), if_neg (by omega), h0]
    rfl
  · have L := lp_fn (n := (D 17 n).toNat - 1) (X := fun c (s : Int) => cm_x 93 4 [some (.inr (.inr 15)), some (.inl (n)), some (.inl (s)), some (.inl (c + 1)), none, none] [] (cm_hp D X)) (F := fun k => faF (fun c => D 19 (n * 8 + c)) (k + 1)) (fun k hk => by
      show cm_x 93 4 [some (.inr (.inr 15)), some (.inl (n)), some (.inl (faF (fun c => D 19 (n * 8 + c)) (k + 1))), some (.inl ((k : Int) + 1)), none, none] [] (cm_hp D X) = cm_x 93 4 [some (.inr (.inr 15)), some (.inl (n)), some (.inl (faF (fun c => D 19 (n * 8 + c)) (k + 1 + 1))), some (.inl ((k : Int) + 1 + 1)), none, none] [] (cm_hp D X)
      have e : cm_wr ((k : Int) + 1 + 1) = (k : Int) + 1 + 1 := cm_wr_id (by omega) (by omega)
      have e1 : cm_wr ((k : Int) + 1 - 1) = (k : Int) := by rw [cm_wr_id (by omega) (by omega)]; omega
      have ek : ((k + 1 : Nat) : Int) = (k : Int) + 1 := by omega
      have ez : faF (fun c => D 19 (n * 8 + c)) (k + 1 + 1) = if D 19 (n * 8 + ((k : Int) + 1)) = -1 then faF (fun c => D 19 (n * 8 + c)) (k + 1) else if D 19 (n * 8 + (k : Int)) = -1 then faF (fun c => D 19 (n * 8 + c)) (k + 1) else cm_mx (faF (fun c => D 19 (n * 8 + c)) (k + 1)) (if 0 ≤ cm_wr (D 19 (n * 8 + ((k : Int) + 1)) - D 19 (n * 8 + (k : Int))) then cm_wr (D 19 (n * 8 + ((k : Int) + 1)) - D 19 (n * 8 + (k : Int))) else cm_wr (0 - cm_wr (D 19 (n * 8 + ((k : Int) + 1)) - D 19 (n * 8 + (k : Int))))) := by
        rw [← ek]
        rfl
      rw [sg_X6_farthest_4, ck_t (by omega), if_pos (by omega), ev_blk n0 n1 (by omega) (by omega), aft_v, sg_X6_farthest_20, e1, ev_blk n0 n1 (by omega) (by omega), aft_v, sg_X6_farthest_30, e, ez]
      by_cases a1 : D 19 (n * 8 + ((k : Int) + 1)) = -1
      · rw [if_pos a1, if_pos a1]
      · rw [if_neg a1, if_neg a1]
        by_cases a2 : D 19 (n * 8 + (k : Int)) = -1
        · rw [if_pos a2, if_pos a2]
        · rw [if_neg a2, if_neg a2])
    have e0 : faF (fun c => D 19 (n * 8 + c)) (0 + 1) = 0 := by
      rw [faF_s]
      have e1 : ah (fun c => D 19 (n * 8 + c)) 0 = -1 := rfl
      have e2 : faF (fun c => D 19 (n * 8 + c)) 0 = 0 := rfl
      rw [if_pos e1, e2]
      by_cases a1 : D 19 (n * 8 + ((0 : Nat) : Int)) = -1
      · rw [if_pos a1]
      · rw [if_neg a1]
    have L : cm_x 93 4 [some (.inr (.inr 15)), some (.inl (n)), some (.inl (0)), some (.inl (1)), none, none] [] (cm_hp D X) = cm_x 93 4 [some (.inr (.inr 15)), some (.inl (n)), some (.inl (faF (fun c => D 19 (n * 8 + c)) ((D 17 n).toNat - 1 + 1))), some (.inl ((((D 17 n).toNat - 1 : Nat) : Int) + 1)), none, none] [] (cm_hp D X) := by
      have := L
      rw [e0] at this
      exact this
    rw [L, show (D 17 n).toNat - 1 + 1 = (D 17 n).toNat by omega, sg_X6_farthest_4, ck_t (by omega), if_neg (by omega)]
theorem ev_mWh {X : cm_X} {n c : Int} (n0 : 0 ≤ n) (n1 : n < 12) (c0 : 0 ≤ c) (c1 : c < 8) : cm_x 227 0 [some (.inr (.inr 613)), some (.inl (n)), some (.inl (c))] [] (cm_hp D X) = some (.inl (some (.inl (D 617 (36 + 8 * n + c)))), cm_hp D X) := by
  rw [sg_X9_whereOf_0, if_neg (by omega)]
  simp (disch := omega) only [cm_wr_id, ck_t]
theorem ev_mLie {X : cm_X} {n w : Int} (n0 : 0 ≤ n) (n1 : n < 12) (hl : 0 ≤ D 617 (12 + n) ∧ D 617 (12 + n) ≤ 8) : cm_x 228 36 [some (.inr (.inr 613)), some (.inl (n)), some (.inl (w)), some (.inl (0)), some (.inl (0)), some (.inl (0)), none, none] [] (cm_hp D X) = some (.inl (some (.inl (if w = 0 then rnF (fun c => D 617 (36 + 8 * n + c)) (D 617 (12 + n)).toNat else faF (fun c => D 617 (36 + 8 * n + c)) (D 617 (12 + n)).toNat))), cm_hp D X) := by
  have w12 : cm_wr (12 + n) = 12 + n := cm_wr_id (by omega) (by omega)
  have L := lp_fn (n := (D 617 (12 + n)).toNat) (X := fun c (s : Int × Int) => cm_x 228 36 [some (.inr (.inr 613)), some (.inl (n)), some (.inl (w)), some (.inl (s.1)), some (.inl (s.2)), some (.inl (c)), none, none] [] (cm_hp D X)) (F := fun k => (rnF (fun c => D 617 (36 + 8 * n + c)) k, faF (fun c => D 617 (36 + 8 * n + c)) k)) (fun k hk => by
    show cm_x 228 36 [some (.inr (.inr 613)), some (.inl (n)), some (.inl (w)), some (.inl (rnF (fun c => D 617 (36 + 8 * n + c)) k)), some (.inl (faF (fun c => D 617 (36 + 8 * n + c)) k)), some (.inl ((k : Int))), none, none] [] (cm_hp D X) = cm_x 228 36 [some (.inr (.inr 613)), some (.inl (n)), some (.inl (w)), some (.inl (rnF (fun c => D 617 (36 + 8 * n + c)) (k + 1))), some (.inl (faF (fun c => D 617 (36 + 8 * n + c)) (k + 1))), some (.inl ((k : Int) + 1)), none, none] [] (cm_hp D X)
    have e : cm_wr ((k : Int) + 1) = (k : Int) + 1 := cm_wr_id (by omega) (by omega)
    have hb := rnF_b (fun c => D 617 (36 + 8 * n + c)) k (by omega)
    have ahk : cm_x 227 0 [some (.inr (.inr 613)), some (.inl (n)), some (.inl (cm_wr ((k : Int) - 1)))] [] (cm_hp D X) = some (.inl (some (.inl (ah (fun c => D 617 (36 + 8 * n + c)) k))), cm_hp D X) := by
      cases k with
      | zero =>
        have : cm_wr (((0 : Nat) : Int) - 1) = -1 := by decide
        rw [this, sg_X9_whereOf_0, if_pos (by omega)]
        rfl
      | succ k =>
        have : cm_wr (((k + 1 : Nat) : Int) - 1) = (k : Int) := by rw [cm_wr_id (by omega) (by omega)]; omega
        rw [this, ev_mWh n0 n1 (by omega) (by omega)]
        rfl
    have e0 : cm_wr (rnF (fun c => D 617 (36 + 8 * n + c)) k + 0) = rnF (fun c => D 617 (36 + 8 * n + c)) k := by rw [Int.add_zero]; exact cm_wr_id (by omega) (by omega)
    rw [sg_X9_lie_36, w12, ck_t (by omega), if_pos (by omega), ev_mWh n0 n1 (by omega) (by omega), aft_v, sg_X9_lie_57, ahk, aft_v, sg_X9_lie_68, e, e0, rnF_s, faF_s]
    by_cases a1 : D 617 (36 + 8 * n + (k : Int)) = -1
    · simp only [if_pos a1]
    · simp only [if_neg a1]
      by_cases a2 : ah (fun c => D 617 (36 + 8 * n + c)) k = -1
      · simp only [if_pos a2]
      · simp only [if_neg a2]
        by_cases a3 : D 617 (36 + 8 * n + (k : Int)) = cm_wr (ah (fun c => D 617 (36 + 8 * n + c)) k + 1)
        · simp only [if_pos a3]
        · simp only [if_neg a3])
  refine Eq.trans L ?_
  show cm_x 228 36 [some (.inr (.inr 613)), some (.inl (n)), some (.inl (w)), some (.inl (rnF (fun c => D 617 (36 + 8 * n + c)) (D 617 (12 + n)).toNat)), some (.inl (faF (fun c => D 617 (36 + 8 * n + c)) (D 617 (12 + n)).toNat)), some (.inl (((D 617 (12 + n)).toNat : Int))), none, none] [] (cm_hp D X) = _
  rw [sg_X9_lie_36, w12, ck_t (by omega), if_neg (by omega)]
  by_cases h0 : w = 0
  · rw [if_pos h0, if_pos h0]
  · rw [if_neg h0, if_neg h0]
theorem q_lie (hR : R D t) (X : cm_X) (n w : Int) : QQ t D X (fun H => cm_x 112 0 [some (.inr (.inr 0)), some (.inl (n)), some (.inl (w))] [] H) (fun H => cm_x 228 0 [some (.inr (.inr 613)), some (.inl (n)), some (.inl (w)), none, none, none, none, none] [] H) 0 := by
  have hc := hR.1
  have hr := hc.2.2.2.2.1
  have hn := hc.2.2.2.2.2.1
  have eh : mHas ((cm_up D 613 0 0) 617) n = cHas D n := eq_has hr hn n
  by_cases hh : cHas D n = 0
  · refine QQ_n hR (fun X => ?_) (fun X => ?_)
    · show cm_x 112 0 [some (.inr (.inr 0)), some (.inl (n)), some (.inl (w))] [] (cm_hp D X) = _
      rw [sg_X8_lie_0, ev_cf, if_pos hh, aft_e (y := 112) (p0 := 2) (e := 0) _ _ _ _ rfl]
    · show cm_x 228 0 [some (.inr (.inr 613)), some (.inl (n)), some (.inl (w)), none, none, none, none, none] [] (cm_hp D X) = _
      rw [sg_X9_lie_0, ev_mFile, eh, aft_v, sg_X9_lie_10, if_pos hh, sg_X9_fail_0, aft_v, sg_X9_lie_27]
  · obtain ⟨⟨n0, n1⟩, nv⟩ := cHas_1 hh
    have hl : 0 ≤ D 17 n ∧ D 17 n ≤ 8 := (hn.2.1 n n0 n1).2.1
    have em : D 617 (12 + n) = D 17 n := (hr.1 n n0 n1).2.1
    have hl2 : 0 ≤ (cm_up D 613 0 0) 617 (12 + n) ∧ (cm_up D 613 0 0) 617 (12 + n) ≤ 8 := by
      show 0 ≤ D 617 (12 + n) ∧ D 617 (12 + n) ≤ 8
      omega
    by_cases hw : 0 ≤ w ∧ w ≤ 1
    · refine QQ_s (v := if w = 0 then rnF (fun c => D 19 (n * 8 + c)) (D 17 n).toNat else faF (fun c => D 19 (n * 8 + c)) (D 17 n).toNat) hR (fun X => ?_) (fun X => ?_)
      · show cm_x 112 0 [some (.inr (.inr 0)), some (.inl (n)), some (.inl (w))] [] (cm_hp D X) = _
        rw [sg_X8_lie_0, ev_cf, if_neg hh, aft_n, sg_X8_lie_5, ev_cw, if_pos hw, aft_n, sg_X8_lie_10]
        by_cases h0 : w = 0
        · rw [if_pos h0, if_pos h0, ev_runs n0 n1 hl, aft_v, sg_X8_lie_22, sg_X8_lie_33]
        · rw [if_neg h0, if_neg h0, ev_far n0 n1 hl, aft_v, sg_X8_lie_33]
      · show cm_x 228 0 [some (.inr (.inr 613)), some (.inl (n)), some (.inl (w)), none, none, none, none, none] [] (cm_hp D X) = _
        rw [sg_X9_lie_0, ev_mFile, eh, aft_v, sg_X9_lie_10, if_neg hh, ev_isIn, if_pos hw, aft_v, sg_X9_lie_19, if_neg (by omega), ev_mLie n0 n1 hl2]
        have hq : ∀ c : Int, 0 ≤ c → c < ((D 17 n).toNat : Int) → D 617 (36 + 8 * n + c) = D 19 (n * 8 + c) := fun c c0 c1 => (hr.2.1 n c n0 n1 c0 (by show c < D 17 n; omega)).1
        show (some (.inl (some (.inl (if w = 0 then rnF (fun c => D 617 (36 + 8 * n + c)) (D 617 (12 + n)).toNat else faF (fun c => D 617 (36 + 8 * n + c)) (D 617 (12 + n)).toNat))), _) : cm_R) = _
        rw [em, rnF_c hq, faF_c hq]
    · refine QQ_n hR (fun X => ?_) (fun X => ?_)
      · show cm_x 112 0 [some (.inr (.inr 0)), some (.inl (n)), some (.inl (w))] [] (cm_hp D X) = _
        rw [sg_X8_lie_0, ev_cf, if_neg hh, aft_n, sg_X8_lie_5, ev_cw, if_neg hw, aft_e (y := 112) (p0 := 7) (e := 0) _ _ _ _ rfl]
      · show cm_x 228 0 [some (.inr (.inr 613)), some (.inl (n)), some (.inl (w)), none, none, none, none, none] [] (cm_hp D X) = _
        rw [sg_X9_lie_0, ev_mFile, eh, aft_v, sg_X9_lie_10, if_neg hh, ev_isIn, if_neg hw, aft_v, sg_X9_lie_19, if_pos rfl, sg_X9_fail_0, aft_v, sg_X9_lie_27]
/-- the pack by which it costs least: up to so many -/
def bst (f : Int → Int) : Nat → Int
  | 0 => 2
  | k + 1 => if f (k + 3) < f (bst f k) then k + 3 else bst f k
theorem bst_b (f : Int → Int) : ∀ k : Nat, 2 ≤ bst f k ∧ bst f k ≤ k + 2 := by
  intro k
  induction k with
  | zero => exact ⟨Int.le_refl _, Int.le_refl _⟩
  | succ k ih =>
    unfold bst
    by_cases h : f (k + 3) < f (bst f k)
    · rw [if_pos h]; omega
    · rw [if_neg h]; omega
theorem ev_bby {X : cm_X} {p : Int} (hp : 2 ≤ p) (c : Int) : cm_x 150 0 [some (.inr (.inr 0)), some (.inl (p)), some (.inl (c))] [] (cm_hp D X) = some (.inl (some (.inl (cm_wr (pkB p c * cm_wr (D 9 2 + p))))), cm_hp D X) := by
  rw [sg_X8_blocksBy_0, ev_pkBy hp, aft_v, sg_X8_blocksBy_5]
theorem ev_toPack {X : cm_X} {w c : Int} : cm_x 149 38 [some (.inr (.inr 0)), some (.inl (w)), some (.inl (c)), some (.inl (2)), some (.inl (cm_wr (pkB 2 c * cm_wr (D 9 2 + 2)))), some (.inl (3)), none] [] (cm_hp D X) = some (.inl (some (.inl (if w = 0 then bst (fun p => cm_wr (pkB p c * cm_wr (D 9 2 + p))) 14 else cm_wr (pkB (bst (fun p => cm_wr (pkB p c * cm_wr (D 9 2 + p))) 14) c * cm_wr (D 9 2 + bst (fun p => cm_wr (pkB p c * cm_wr (D 9 2 + p))) 14))))), cm_hp D X) := by
  have key : ∀ g : Int → Int, g = (fun p => cm_wr (pkB p c * cm_wr (D 9 2 + p))) → cm_x 149 38 [some (.inr (.inr 0)), some (.inl (w)), some (.inl (c)), some (.inl (2)), some (.inl (g 2)), some (.inl (3)), none] [] (cm_hp D X) = some (.inl (some (.inl (if w = 0 then bst g 14 else g (bst g 14)))), cm_hp D X) := by
    intro g hg
    have L := lp_fn (n := 14) (X := fun p (s : Int) => cm_x 149 38 [some (.inr (.inr 0)), some (.inl (w)), some (.inl (c)), some (.inl (s)), some (.inl (g s)), some (.inl (p + 3)), none] [] (cm_hp D X)) (F := fun k => bst g k) (fun k hk => by
      show cm_x 149 38 [some (.inr (.inr 0)), some (.inl (w)), some (.inl (c)), some (.inl (bst g k)), some (.inl (g (bst g k))), some (.inl ((k : Int) + 3)), none] [] (cm_hp D X) = cm_x 149 38 [some (.inr (.inr 0)), some (.inl (w)), some (.inl (c)), some (.inl (bst g (k + 1))), some (.inl (g (bst g (k + 1)))), some (.inl ((k : Int) + 1 + 3)), none] [] (cm_hp D X)
      have e : cm_wr ((k : Int) + 3 + 1) = (k : Int) + 1 + 3 := by rw [cm_wr_id (by omega) (by omega)]; omega
      have eg : cm_wr (pkB ((k : Int) + 3) c * cm_wr (D 9 2 + ((k : Int) + 3))) = g ((k : Int) + 3) := by rw [hg]
      have ez : bst g (k + 1) = if g (k + 3) < g (bst g k) then (k : Int) + 3 else bst g k := rfl
      rw [sg_X8_toPack_38, if_neg (by omega), ev_bby (by omega), aft_v, sg_X8_toPack_52, eg, e, ez]
      by_cases hz : g ((k : Int) + 3) < g (bst g k)
      · rw [if_pos hz, if_pos hz]
      · rw [if_neg hz, if_neg hz])
    refine Eq.trans L ?_
    show cm_x 149 38 [some (.inr (.inr 0)), some (.inl (w)), some (.inl (c)), some (.inl (bst g 14)), some (.inl (g (bst g 14))), some (.inl (((14 : Nat) : Int) + 3)), none] [] (cm_hp D X) = _
    rw [sg_X8_toPack_38, if_pos (by omega)]
    by_cases h0 : w = 0
    · rw [if_pos h0, if_pos h0]
    · rw [if_neg h0, if_neg h0]
  exact key _ rfl
theorem ev_mPack {X : cm_X} (hmo : mOk (D 617)) {w : Int} : cm_x 267 33 [some (.inr (.inr 613)), some (.inl (w)), some (.inl (2)), some (.inl (3))] [] (cm_hp D X) = some (.inl (some (.inl (if w = 0 then bst (fun p => cm_wr (pkB p (mThs (D 617)) * cm_wr (D 614 2 + p))) 14 else cm_wr (pkB (bst (fun p => cm_wr (pkB p (mThs (D 617)) * cm_wr (D 614 2 + p))) 14) (mThs (D 617)) * cm_wr (D 614 2 + bst (fun p => cm_wr (pkB p (mThs (D 617)) * cm_wr (D 614 2 + p))) 14))))), cm_hp D X) := by
  have key : ∀ g : Int → Int, g = (fun p => cm_wr (pkB p (mThs (D 617)) * cm_wr (D 614 2 + p))) → cm_x 267 33 [some (.inr (.inr 613)), some (.inl (w)), some (.inl (2)), some (.inl (3))] [] (cm_hp D X) = some (.inl (some (.inl (if w = 0 then bst g 14 else g (bst g 14)))), cm_hp D X) := by
    intro g hg
    have L := lp_fn (n := 14) (X := fun p (s : Int) => cm_x 267 33 [some (.inr (.inr 613)), some (.inl (w)), some (.inl (s)), some (.inl (p + 3))] [] (cm_hp D X)) (F := fun k => bst g k) (fun k hk => by
      show cm_x 267 33 [some (.inr (.inr 613)), some (.inl (w)), some (.inl (bst g k)), some (.inl ((k : Int) + 3))] [] (cm_hp D X) = cm_x 267 33 [some (.inr (.inr 613)), some (.inl (w)), some (.inl (bst g (k + 1))), some (.inl ((k : Int) + 1 + 3))] [] (cm_hp D X)
      have e : cm_wr ((k : Int) + 3 + 1) = (k : Int) + 1 + 3 := by rw [cm_wr_id (by omega) (by omega)]; omega
      have eg : ∀ p, cm_wr (pkB p (mThs (D 617)) * cm_wr (D 614 2 + p)) = g p := by intro p; rw [hg]
      have ez : bst g (k + 1) = if g (k + 3) < g (bst g k) then (k : Int) + 3 else bst g k := rfl
      have hb := bst_b g k
      rw [sg_X9_toPack_33, if_neg (by omega), ev_mThings hmo, aft_v, sg_X9_toPack_44, ev_mCost (by omega), aft_v, sg_X9_toPack_48, ev_mThings hmo, aft_v, sg_X9_toPack_53, ev_mCost (by omega), aft_v, sg_X9_toPack_57, eg, eg, e, ez]
      by_cases hz : g ((k : Int) + 3) < g (bst g k)
      · rw [if_pos hz, if_pos hz]
      · rw [if_neg hz, if_neg hz])
    refine Eq.trans L ?_
    show cm_x 267 33 [some (.inr (.inr 613)), some (.inl (w)), some (.inl (bst g 14)), some (.inl (((14 : Nat) : Int) + 3))] [] (cm_hp D X) = _
    have hb := bst_b g 14
    rw [sg_X9_toPack_33, if_pos (by omega)]
    by_cases h0 : w = 0
    · rw [if_pos h0, if_pos h0, sg_X9_toPack_89]
    · rw [if_neg h0, if_neg h0, ev_mThings hmo, aft_v, sg_X9_toPack_85, ev_mCost (by omega), aft_v, sg_X9_toPack_89, hg]
  exact key _ rfl
theorem q_toPack (hR : R D t) (X : cm_X) (w : Int) : QQ t D X (fun H => cm_x 149 0 [some (.inr (.inr 0)), some (.inl (w)), none, none, none, none, none] [] H) (fun H => cm_x 267 0 [some (.inr (.inr 613)), some (.inl (w)), none, none] [] H) 0 := by
  have hc := hR.1
  have hr := hc.2.2.2.2.1
  have hn := hc.2.2.2.2.2.1
  have hlo := lo_15 hc
  have hmo : mOk ((cm_up D 613 0 0) 617) := mo_617 hc
  have ea : mAny ((cm_up D 613 0 0) 617) = cAny D := eq_any hr hn
  have eth : mThs (D 617) = cm_wr (cCon D + 1) := eq_things hr hn
  have ern : D 614 2 = D 9 2 := hc.2.1 2 (by omega) (by omega)
  have hcb := cCon_b hlo
  by_cases hw : 0 ≤ w ∧ w ≤ 1
  · by_cases ha : cAny D = 0
    · refine QQ_s (v := -1) hR (fun X => ?_) (fun X => ?_)
      · show cm_x 149 0 [some (.inr (.inr 0)), some (.inl (w)), none, none, none, none, none] [] (cm_hp D X) = _
        rw [sg_X8_toPack_0, ev_cw, if_pos hw, aft_n, sg_X8_toPack_5, ev_any, aft_v, sg_X8_toPack_12, if_pos ha]
      · show cm_x 267 0 [some (.inr (.inr 613)), some (.inl (w)), none, none] [] (cm_hp D X) = _
        rw [sg_X9_toPack_0, ev_isIn, if_pos hw, aft_v, sg_X9_toPack_11, if_neg (by omega), ev_mAny, ea, aft_v, sg_X9_toPack_24, if_pos ha]
    · have h0 := ((cCnt_0 hn).2 ha).1
      have ew : cm_wr (cCon D + 1) = cCnt D := by rw [h0]; exact cm_wr_id (by omega) (by omega)
      rw [ew] at eth
      refine QQ_s (v := if w = 0 then bst (fun p => cm_wr (pkB p (cCnt D) * cm_wr (D 9 2 + p))) 14 else cm_wr (pkB (bst (fun p => cm_wr (pkB p (cCnt D) * cm_wr (D 9 2 + p))) 14) (cCnt D) * cm_wr (D 9 2 + bst (fun p => cm_wr (pkB p (cCnt D) * cm_wr (D 9 2 + p))) 14))) hR (fun X => ?_) (fun X => ?_)
      · show cm_x 149 0 [some (.inr (.inr 0)), some (.inl (w)), none, none, none, none, none] [] (cm_hp D X) = _
        rw [sg_X8_toPack_0, ev_cw, if_pos hw, aft_n, sg_X8_toPack_5, ev_any, aft_v, sg_X8_toPack_12, if_neg ha, ev_contentCount hlo, aft_v, sg_X8_toPack_24, ev_bby (by omega), aft_v, sg_X8_toPack_33, ev_toPack]
      · show cm_x 267 0 [some (.inr (.inr 613)), some (.inl (w)), none, none] [] (cm_hp D X) = _
        rw [sg_X9_toPack_0, ev_isIn, if_pos hw, aft_v, sg_X9_toPack_11, if_neg (by omega), ev_mAny, ea, aft_v, sg_X9_toPack_24, if_neg ha, ev_mPack hmo]
        have q : (cm_up D 613 0 0) 617 = D 617 := rfl
        have q2 : (cm_up D 613 0 0) 614 2 = D 9 2 := ern
        rw [q, q2, eth]
  · refine QQ_n hR (fun X => ?_) (fun X => ?_)
    · show cm_x 149 0 [some (.inr (.inr 0)), some (.inl (w)), none, none, none, none, none] [] (cm_hp D X) = _
      rw [sg_X8_toPack_0, ev_cw, if_neg hw, aft_e (y := 149) (p0 := 2) (e := 0) _ _ _ _ rfl]
    · show cm_x 267 0 [some (.inr (.inr 613)), some (.inl (w)), none, none] [] (cm_hp D X) = _
      rw [sg_X9_toPack_0, ev_isIn, if_neg hw, aft_v, sg_X9_toPack_11, if_pos rfl, sg_X9_fail_0, aft_v, sg_X9_toPack_19]
