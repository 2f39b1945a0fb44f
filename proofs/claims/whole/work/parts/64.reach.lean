/-! what is reached from a map: the class's look -/
variable {D : Nat → Int → Int} {X : cm_X} {K B : Int → Int} {h pk : Int}
theorem dOk_of {D' : Nat → Int → Int} (e0 : D' 9 0 = D 9 0) (e1 : D' 9 1 = D 9 1) (e2 : D' 9 2 = D 9 2) (e3 : D' 9 3 = D 9 3) (e11 : D' 11 = D 11) (e12 : D' 12 = D 12) (e13 : D' 13 = D 13) (hd : dOk D K B h) : dOk D' K B h := by
  unfold dOk zOk at *
  rw [e0, e1, e2, e3, e11, e12, e13]
  exact hd
theorem up_ua {E : Nat → Int → Int} {a : Nat} {g : Int → Int} {i v : Int} : cm_up (cm_ua E a g) a i v = cm_ua E a (cm_u1 g i v) := by
  funext b
  unfold cm_up cm_ua
  by_cases hb : b = a
  · rw [if_pos hb, if_pos hb, if_pos rfl]
  · rw [if_neg hb, if_neg hb, if_neg hb]
def mk14 (D : Nat → Int → Int) (q : Int) (g : Int → Int) : Nat → Int → Int := cm_ua (cm_up D 9 10 q) 14 g
theorem mk_d {q : Int} {g : Int → Int} (hd : dOk D K B h) : dOk (mk14 D q g) K B h := dOk_of rfl rfl rfl rfl rfl rfl rfl hd
def rbk (s q : Int) (g : Int → Int) (b : Int) : Int → Int := if 0 ≤ b ∧ b < s then cm_u1 g b q else g
theorem ev_reachBlock {q : Int} {g : Int → Int} (hz : zOk D) (b : Int) : cm_x 40 0 [some (.inr (.inr 9)), some (.inl (b))] [] (cm_hp (mk14 D q g) X) = some (.inl none, cm_hp (mk14 D q (rbk (D 9 0) q g b)) X) := by
  have hs := hz.1.2
  have e : mk14 D q g 9 0 = D 9 0 := rfl
  have e2 : mk14 D q g 9 10 = q := rfl
  rw [sg_X2_reachBlock_0, ev_isBlock, aft_v, sg_X2_reachBlock_5, e, e2]
  unfold rbk
  by_cases h1 : 0 ≤ b ∧ b < D 9 0
  · rw [if_pos h1, if_pos h1, if_neg (by omega), ck_t (by omega)]
    unfold mk14
    rw [up_ua]
  · rw [if_neg h1, if_neg h1, if_pos rfl]
def gI (q : Int) (g : Int → Int) (S : Int → Prop) : Prop := ∀ b, 0 ≤ b → b < 400 → (g b = q ↔ S b) ∧ g b ≤ q
theorem gI_st {q s : Int} {g : Int → Int} {S S' : Int → Prop} {x : Int} (hg : gI q g S) (hx : x = -1 ∨ (0 ≤ x ∧ x < s)) (hS : ∀ b, 0 ≤ b → (S' b ↔ S b ∨ b = x)) : gI q (rbk s q g x) S' := by
  intro b b0 b1
  obtain ⟨g1, g2⟩ := hg b b0 b1
  rw [hS b b0]
  unfold rbk
  by_cases h1 : 0 ≤ x ∧ x < s
  · rw [if_pos h1]
    unfold cm_u1
    by_cases h2 : b = x
    · rw [if_pos h2]
      exact ⟨⟨fun _ => Or.inr h2, fun _ => rfl⟩, Int.le_refl _⟩
    · rw [if_neg h2, g1]
      exact ⟨⟨Or.inl, fun z => z.resolve_right h2⟩, g2⟩
  · rw [if_neg h1, g1]
    exact ⟨⟨Or.inl, fun z => z.resolve_right (by omega)⟩, g2⟩
def tl (B : Int → Int) (m v : Int) : Int := if m = -1 then -1 else B (15 * m + v)
def en (B : Int → Int) (m n : Int) : Int := if m = -1 then -1 else mEnt B m n
def rch (B : Int → Int) (m b : Int) : Prop := b = m ∨ (∃ v, 0 ≤ v ∧ v < 13 ∧ tl B m v = b) ∨ ∃ n, 0 ≤ n ∧ n < 12 ∧ en B m n ≠ -1 ∧ ∃ c, 0 ≤ c ∧ c < B (15 * en B m n + 8) ∧ B (15 * en B m n + c) = b
theorem tl_b (hg : gOk pk K B h) {m : Int} (hm : mpO K pk h m) {v : Int} (v0 : 0 ≤ v) (v1 : v < 13) : tl B m v = -1 ∨ (0 ≤ tl B m v ∧ tl B m v < m) := by
  unfold tl
  by_cases hn : m = -1
  · rw [if_pos hn]; exact Or.inl rfl
  · rw [if_neg hn]
    obtain ⟨-, -, md, me, -, -⟩ := mp_map hg hm hn
    by_cases h0 : v = 0
    · rw [h0, Int.add_zero]
      rcases md with md | ⟨md, -⟩
      · exact Or.inl md
      · exact Or.inr md
    · rcases me v (by omega) v1 with e | ⟨e, -⟩
      · exact Or.inl e
      · exact Or.inr e
theorem en_ok (hg : gOk pk K B h) {m : Int} (hm : mpO K pk h m) {n : Int} (n0 : 0 ≤ n) (n1 : n < 12) (he : en B m n ≠ -1) : entOk K B (en B m n) m := by
  unfold en at he ⊢
  by_cases hn : m = -1
  · rw [if_pos hn] at he; exact absurd rfl he
  · rw [if_neg hn] at he ⊢
    exact mEnt_ok hg hm hn n0 n1 he
/-- what is reached is not behind the map -/
theorem rch_le (hg : gOk pk K B h) {m : Int} (hm : mpO K pk h m) {b : Int} (b0 : 0 ≤ b) (hr : rch B m b) : b ≤ m := by
  rcases hr with hr | ⟨v, v0, v1, hv⟩ | ⟨n, n0, n1, he, c, c0, c1, hc⟩
  · omega
  · have := tl_b hg hm v0 v1
    omega
  · obtain ⟨⟨e0, e1⟩, -, ec⟩ := en_ok hg hm n0 n1 he
    have := ec c c0 c1
    omega
theorem ev_tl (hd : dOk D K B h) {m : Int} (hm : mpO K (D 9 1) h m) {v : Int} (v0 : 0 ≤ v) (v1 : v < 15) : cm_x 23 0 [some (.inr (.inr 9)), some (.inl (m)), some (.inl (v))] [] (cm_hp D X) = some (.inl (some (.inl (tl B m v))), cm_hp D X) := by
  rw [ev_toldBy hd.1]
  unfold tl
  by_cases hn : m = -1
  · rw [if_pos hn, hn, tb_none]
  · obtain ⟨⟨m0, m1⟩, mk, -⟩ := mp_map (d_g hd) hm hn
    rw [if_neg hn, tb_map hd m0 m1 mk v0 v1]
theorem ev_en (hd : dOk D K B h) {m : Int} (hm : mpO K (D 9 1) h m) {n : Int} (n0 : 0 ≤ n) (n1 : n < 12) : cm_x 36 0 [some (.inr (.inr 9)), some (.inl (m)), some (.inl (n)), none] [] (cm_hp D X) = some (.inl (some (.inl (en B m n))), cm_hp D X) := ev_entryBy hd hm n0 n1
/-- how many cells an entry has; none: 0 -/
def eL (B : Int → Int) (e : Int) : Int := if e = -1 then 0 else B (15 * e + 8)
theorem ev_eL (hd : dOk D K B h) {m : Int} (hm : mpO K (D 9 1) h m) {n : Int} (n0 : 0 ≤ n) (n1 : n < 12) : cm_x 22 0 [some (.inr (.inr 9)), some (.inl (en B m n))] [] (cm_hp D X) = some (.inl (some (.inl (eL B (en B m n)))), cm_hp D X) := by
  unfold eL
  by_cases he : en B m n = -1
  · rw [if_pos he, he, ev_lengthOf hd.1, lo_none]
  · have hh : m ≤ h := by rcases hm with hm | ⟨⟨_, _⟩, _⟩ <;> have := hd.2.2.2.2 <;> omega
    rw [if_neg he, ev_lenE hd (en_ok (d_g hd) hm n0 n1 he) hh]
theorem eL_b (hg : gOk pk K B h) {m : Int} (hm : mpO K pk h m) {n : Int} (n0 : 0 ≤ n) (n1 : n < 12) : 0 ≤ eL B (en B m n) ∧ eL B (en B m n) ≤ 8 := by
  unfold eL
  by_cases he : en B m n = -1
  · rw [if_pos he]; omega
  · have hh : m ≤ h := by rcases hm with hm | ⟨⟨_, _⟩, _⟩ <;> have := hg.2.2.1 <;> omega
    rw [if_neg he]
    exact ent_len hg (en_ok hg hm n0 n1 he) hh
theorem ev_reach (hd : dOk D K B h) {m : Int} (hm : mpO K (D 9 1) h m) {q : Int} (hq : cm_wr (D 9 10 + 1) = q) (hl : ∀ b, 0 ≤ b → b < 400 → D 14 b < q) : ∃ g, cm_x 39 0 [some (.inr (.inr 9)), some (.inl (m)), none, none, none] [] (cm_hp D X) = some (.inl none, cm_hp (mk14 D q g) X) ∧ gI q g (rch B m) := by
  have hs : h ≤ D 9 0 := hd.2.2.2.1
  have hh := hd.2.2.2.2
  have e0 : cm_up D 9 10 q = mk14 D q (D 14) := by
    funext b j
    unfold mk14
    rw [ua_at]
    by_cases hb : b = 14
    · rw [if_pos hb, hb, up_at, if_neg (by omega)]
    · rw [if_neg hb]
  have i0 : gI q (D 14) (fun _ => False) := fun b b0 b1 => ⟨⟨fun e => by have := hl b b0 b1; omega, False.elim⟩, by have := hl b b0 b1; omega⟩
  have i1 : gI q (rbk (D 9 0) q (D 14) m) (fun b => b = m) := gI_st i0 (by rcases hm with hm | ⟨⟨_, _⟩, _⟩ <;> omega) (fun b _ => by simp)
  have hmh : m < h := by rcases hm with hm | ⟨⟨_, _⟩, _⟩ <;> omega
  have gd := d_g hd
  obtain ⟨g1, L1, P1⟩ := lp_inv (X := fun v g => cm_x 39 17 [some (.inr (.inr 9)), some (.inl (m)), some (.inl (v)), none, none] [] (cm_hp (mk14 D q g) X)) (P := fun v g => gI q g (fun b => b = m ∨ ∃ v', 0 ≤ v' ∧ v' < v ∧ tl B m v' = b)) (lo := 0) (hi := 13) (fun v g v0 v1 hP => by
    refine ⟨rbk (D 9 0) q g (tl B m v), ?_, ?_⟩
    · show cm_x 39 17 [some (.inr (.inr 9)), some (.inl (m)), some (.inl (v)), none, none] [] (cm_hp (mk14 D q g) X) = cm_x 39 17 [some (.inr (.inr 9)), some (.inl (m)), some (.inl (v + 1)), none, none] [] (cm_hp (mk14 D q (rbk (D 9 0) q g (tl B m v))) X)
      have e : cm_wr (v + 1) = v + 1 := cm_wr_id (by omega) (by omega)
      rw [sg_X2_reach_17, if_pos v1, ev_tl (mk_d hd) hm v0 (by omega), aft_v, sg_X2_reach_30, ev_reachBlock hd.1, aft_n, sg_X2_reach_33, e]
    · refine gI_st hP (by have := tl_b gd hm v0 v1; omega) (fun b b0 => ?_)
      constructor
      · rintro (a | ⟨v', a1, a2, a3⟩)
        · exact Or.inl (Or.inl a)
        · by_cases hv : v' = v
          · exact Or.inr (by rw [← a3, hv])
          · exact Or.inl (Or.inr ⟨v', a1, by omega, a3⟩)
      · rintro ((a | ⟨v', a1, a2, a3⟩) | a)
        · exact Or.inl a
        · exact Or.inr ⟨v', a1, by omega, a3⟩
        · exact Or.inr ⟨v, v0, by omega, a.symm⟩) _ (by omega) (by
    intro b b0 b1
    obtain ⟨a1, a2⟩ := i1 b b0 b1
    refine ⟨a1.trans ⟨Or.inl, ?_⟩, a2⟩
    rintro (a | ⟨v', c1, c2, c3⟩)
    · exact a
    · omega)
  obtain ⟨g2, L2, P2⟩ := lp_inv (X := fun n g => cm_x 39 41 [some (.inr (.inr 9)), some (.inl (m)), some (.inl (n)), none, none] [] (cm_hp (mk14 D q g) X)) (P := fun n g => gI q g (fun b => b = m ∨ (∃ v', 0 ≤ v' ∧ v' < 13 ∧ tl B m v' = b) ∨ ∃ n', 0 ≤ n' ∧ n' < n ∧ en B m n' ≠ -1 ∧ ∃ c, 0 ≤ c ∧ c < B (15 * en B m n' + 8) ∧ B (15 * en B m n' + c) = b)) (lo := 0) (hi := 12) (fun n g n0 n1 hP => by
    have el := eL_b gd hm n0 n1
    obtain ⟨g3, L3, P3⟩ := lp_inv (X := fun c g => cm_x 39 57 [some (.inr (.inr 9)), some (.inl (m)), some (.inl (n)), some (.inl (en B m n)), some (.inl (c))] [] (cm_hp (mk14 D q g) X)) (P := fun c g => gI q g (fun b => (b = m ∨ (∃ v', 0 ≤ v' ∧ v' < 13 ∧ tl B m v' = b) ∨ ∃ n', 0 ≤ n' ∧ n' < n ∧ en B m n' ≠ -1 ∧ ∃ c, 0 ≤ c ∧ c < B (15 * en B m n' + 8) ∧ B (15 * en B m n' + c) = b) ∨ ∃ c', 0 ≤ c' ∧ c' < c ∧ B (15 * en B m n + c') = b)) (lo := 0) (hi := eL B (en B m n)) (fun c g c0 c1 hP => by
      have he : en B m n ≠ -1 := by
        intro he
        rw [he] at c1
        unfold eL at c1
        rw [if_pos rfl] at c1
        omega
      have e4 : eL B (en B m n) = B (15 * en B m n + 8) := by unfold eL; rw [if_neg he]
      obtain ⟨⟨e0, e1⟩, ek, ec⟩ := en_ok gd hm n0 n1 he
      have ec := ec c c0 (by omega)
      refine ⟨rbk (D 9 0) q g (B (15 * en B m n + c)), ?_, ?_⟩
      · show cm_x 39 57 [some (.inr (.inr 9)), some (.inl (m)), some (.inl (n)), some (.inl (en B m n)), some (.inl (c))] [] (cm_hp (mk14 D q g) X) = cm_x 39 57 [some (.inr (.inr 9)), some (.inl (m)), some (.inl (n)), some (.inl (en B m n)), some (.inl (c + 1))] [] (cm_hp (mk14 D q (rbk (D 9 0) q g (B (15 * en B m n + c)))) X)
        have e : cm_wr (c + 1) = c + 1 := cm_wr_id (by omega) (by omega)
        rw [sg_X2_reach_57, ev_eL (mk_d hd) hm n0 n1, aft_v, sg_X2_reach_64, if_pos c1, ev_toldBy (mk_d hd).1, aft_v, tb_ent (mk_d hd) e0 (by omega) ek c0 (by omega), sg_X2_reach_75, ev_reachBlock hd.1, aft_n, sg_X2_reach_78, e]
      · refine gI_st hP (by omega) (fun b b0 => ?_)
        constructor
        · rintro (a | ⟨v', a1, a2, a3⟩)
          · exact Or.inl (Or.inl a)
          · by_cases hv : v' = c
            · exact Or.inr (by rw [← a3, hv])
            · exact Or.inl (Or.inr ⟨v', a1, by omega, a3⟩)
        · rintro ((a | ⟨v', a1, a2, a3⟩) | a)
          · exact Or.inl a
          · exact Or.inr ⟨v', a1, by omega, a3⟩
          · exact Or.inr ⟨c, c0, by omega, a.symm⟩) g (by omega) (by
      intro b b0 b1
      obtain ⟨a1, a2⟩ := hP b b0 b1
      refine ⟨a1.trans ⟨Or.inl, ?_⟩, a2⟩
      rintro (a | ⟨v', c1, c2, c3⟩)
      · exact a
      · omega)
    refine ⟨g3, ?_, ?_⟩
    · show cm_x 39 41 [some (.inr (.inr 9)), some (.inl (m)), some (.inl (n)), none, none] [] (cm_hp (mk14 D q g) X) = cm_x 39 41 [some (.inr (.inr 9)), some (.inl (m)), some (.inl (n + 1)), none, none] [] (cm_hp (mk14 D q g3) X)
      have e : cm_wr (n + 1) = n + 1 := cm_wr_id (by omega) (by omega)
      rw [sg_X2_reach_41, if_pos n1, ev_en (mk_d hd) hm n0 n1, aft_v, sg_X2_reach_53]
      refine Eq.trans L3 ?_
      show cm_x 39 57 [some (.inr (.inr 9)), some (.inl (m)), some (.inl (n)), some (.inl (en B m n)), some (.inl (eL B (en B m n)))] [] (cm_hp (mk14 D q g3) X) = _
      rw [sg_X2_reach_57, ev_eL (mk_d hd) hm n0 n1, aft_v, sg_X2_reach_64, if_neg (by omega), e]
    · intro b b0 b1
      obtain ⟨a1, a2⟩ := P3 b b0 b1
      refine ⟨a1.trans ⟨?_, ?_⟩, a2⟩
      · rintro ((a | a | ⟨n', c1, c2, c3⟩) | ⟨c, c1, c2, c3⟩)
        · exact Or.inl a
        · exact Or.inr (Or.inl a)
        · exact Or.inr (Or.inr ⟨n', c1, by omega, c3⟩)
        · have he : en B m n ≠ -1 := by
            intro he
            rw [he] at c2
            unfold eL at c2
            rw [if_pos rfl] at c2
            omega
          have e4 : eL B (en B m n) = B (15 * en B m n + 8) := by unfold eL; rw [if_neg he]
          exact Or.inr (Or.inr ⟨n, n0, by omega, he, c, c1, by omega, c3⟩)
      · rintro (a | a | ⟨n', c1, c2, c3, c, d1, d2, d3⟩)
        · exact Or.inl (Or.inl a)
        · exact Or.inl (Or.inr (Or.inl a))
        · by_cases hn : n' = n
          · rw [hn] at c3 d2 d3
            have e4 : eL B (en B m n) = B (15 * en B m n + 8) := by unfold eL; rw [if_neg c3]
            exact Or.inr ⟨c, d1, by omega, d3⟩
          · exact Or.inl (Or.inr (Or.inr ⟨n', c1, by omega, c3, c, d1, d2, d3⟩))) g1 (by omega) (by
    intro b b0 b1
    obtain ⟨a1, a2⟩ := P1 b b0 b1
    refine ⟨a1.trans ⟨?_, ?_⟩, a2⟩
    · rintro (a | a)
      · exact Or.inl a
      · exact Or.inr (Or.inl a)
    · rintro (a | a | ⟨n', c1, c2, c3⟩)
      · exact Or.inl a
      · exact Or.inr a
      · omega)
  refine ⟨g2, ?_, P2⟩
  rw [sg_X2_reach_0, hq, e0, ev_reachBlock hd.1, aft_n, sg_X2_reach_15]
  refine Eq.trans L1 ?_
  show cm_x 39 17 [some (.inr (.inr 9)), some (.inl (m)), some (.inl (13)), none, none] [] (cm_hp (mk14 D q g1) X) = _
  rw [sg_X2_reach_17, if_neg (by omega)]
  refine Eq.trans L2 ?_
  show cm_x 39 41 [some (.inr (.inr 9)), some (.inl (m)), some (.inl (12)), none, none] [] (cm_hp (mk14 D q g2) X) = _
  rw [sg_X2_reach_41, if_neg (by omega)]
/-- a look's marks: at most the look's number -/
def lkOk (D : Nat → Int → Int) (t : Int) : Prop := (0 ≤ D 9 10 ∧ D 9 10 ≤ t) ∧ ∀ b, 0 ≤ b → b < 400 → D 14 b ≤ D 9 10
theorem mk_lk {q t : Int} {g : Int → Int} {S : Int → Prop} (hl : lkOk D t) (hq : q = D 9 10 + 1) (hg : gI q g S) : lkOk (mk14 D q g) (t + 1) := by
  have e1 : mk14 D q g 9 10 = q := rfl
  have e2 : mk14 D q g 14 = g := rfl
  unfold lkOk
  rw [e1, e2]
  exact ⟨by have := hl.1; omega, fun b b0 b1 => (hg b b0 b1).2⟩
theorem ev_reach' (hd : dOk D K B h) {m t : Int} (hm : mpO K (D 9 1) h m) (hl : lkOk D t) (ht : t < 2000000000) : ∃ g, cm_x 39 0 [some (.inr (.inr 9)), some (.inl (m)), none, none, none] [] (cm_hp D X) = some (.inl none, cm_hp (mk14 D (D 9 10 + 1) g) X) ∧ gI (D 9 10 + 1) g (rch B m) ∧ lkOk (mk14 D (D 9 10 + 1) g) (t + 1) := by
  obtain ⟨⟨l1, l2⟩, l3⟩ := hl
  obtain ⟨g, e, hg⟩ := ev_reach (X := X) hd hm (q := D 9 10 + 1) (cm_wr_id (by omega) (by omega)) (fun b b0 b1 => by have := l3 b b0 b1; omega)
  exact ⟨g, e, hg, mk_lk ⟨⟨l1, l2⟩, l3⟩ rfl hg⟩
/-- the same but for marks -/
def eqL (D D' : Nat → Int → Int) : Prop := ∃ q g, D' = mk14 D q g
theorem eqL_tr {D D' D'' : Nat → Int → Int} (h1 : eqL D D') (h2 : eqL D' D'') : eqL D D'' := by
  obtain ⟨q, g, rfl⟩ := h1
  obtain ⟨q', g', rfl⟩ := h2
  refine ⟨q', g', ?_⟩
  funext a j
  unfold mk14
  simp only [ua_at, up_at]
  by_cases h1 : a = 14
  · rw [if_pos h1, if_pos h1]
  · simp only [if_neg h1]
    by_cases h2 : a = 9 ∧ j = 10
    · rw [if_pos h2, if_pos h2]
    · rw [if_neg h2, if_neg h2, if_neg h2]
theorem eqL_rf (D : Nat → Int → Int) : eqL D D := by
  refine ⟨D 9 10, D 14, ?_⟩
  funext a j
  unfold mk14
  rw [ua_at, up_at]
  by_cases h1 : a = 14
  · rw [if_pos h1, h1]
  · rw [if_neg h1]
    by_cases h2 : a = 9 ∧ j = 10
    · rw [if_pos h2, h2.1, h2.2]
    · rw [if_neg h2]
/-- from how many good maps a block is reached -/
theorem ev_mapsReaching (hd : dOk D K B h) {b t : Int} (b0 : 0 ≤ b) (b1 : b < D 9 0) (hl : lkOk D t) (ht : 0 ≤ t ∧ t < 1000000000) : ∃ D', cm_x 41 0 [some (.inr (.inr 9)), some (.inl (b)), some (.inl (h)), none, none] [] (cm_hp D X) = some (.inl (some (.inl (smw (fun m => tv (goodM K (D 9 1) m ∧ rch B m b)) h.toNat))), cm_hp D' X) ∧ eqL D D' ∧ lkOk D' (t + 400) := by
  have hs : h ≤ D 9 0 := hd.2.2.2.1
  have hz := hd.1.1
  have hh := hd.2.2.2.2
  rw [sg_X2_mapsReaching_0, ev_isBlock, aft_v, sg_X2_mapsReaching_5, if_pos (show 0 ≤ b ∧ b < D 9 0 from ⟨b0, b1⟩), if_neg (by omega)]
  have z0 : ∀ n : Nat, (n : Int) ≤ b → (n : Int) ≤ h → smw (fun m => tv (goodM K (D 9 1) m ∧ rch B m b)) n = 0 := by
    intro n
    induction n with
    | zero => intro _ _; rfl
    | succ n ih =>
      intro h1 h2
      show cm_wr (smw _ n + tv (goodM K (D 9 1) n ∧ rch B n b)) = 0
      rw [ih (by omega) (by omega), tv_f]
      · rfl
      · rintro ⟨g1, g2⟩
        have := rch_le (d_g hd) (Or.inr ⟨⟨by omega, by omega⟩, g1⟩) b0 g2
        omega
  by_cases hb : b < h
  · have key : ∀ n : Nat, b + n ≤ h → ∃ D', cm_x 41 15 [some (.inr (.inr 9)), some (.inl (b)), some (.inl (h)), some (.inl (0)), some (.inl (b))] [] (cm_hp D X) = cm_x 41 15 [some (.inr (.inr 9)), some (.inl (b)), some (.inl (h)), some (.inl (smw (fun m => tv (goodM K (D 9 1) m ∧ rch B m b)) (b + n).toNat)), some (.inl (b + n))] [] (cm_hp D' X) ∧ eqL D D' ∧ lkOk D' (t + n) := by
      intro n
      induction n with
      | zero =>
        intro _
        refine ⟨D, ?_, eqL_rf D, ?_⟩
        · rw [show b + ((0 : Nat) : Int) = b by omega, z0 b.toNat (by omega) (by omega)]
        · rw [show t + ((0 : Nat) : Int) = t by omega]; exact hl
      | succ n ih =>
        intro hn
        obtain ⟨D', e1, q1, l1⟩ := ih (by omega)
        obtain ⟨q0, g0, rfl⟩ := q1
        have hd' := mk_d (q := q0) (g := g0) hd
        have e9 : mk14 D q0 g0 9 1 = D 9 1 := rfl
        have e8 : mk14 D q0 g0 9 0 = D 9 0 := rfl
        have hsm := smw_le (m := 1) (by omega) (f := fun m => tv (goodM K (D 9 1) m ∧ rch B m b)) (n := (b + n).toNat) (fun i _ _ => tv_bb _) (by omega)
        have ez : smw (fun m => tv (goodM K (D 9 1) m ∧ rch B m b)) (b + ((n + 1 : Nat) : Int)).toNat = smw (fun m => tv (goodM K (D 9 1) m ∧ rch B m b)) (b + n).toNat + tv (goodM K (D 9 1) (b + n) ∧ rch B (b + n) b) := by
          rw [show (b + ((n + 1 : Nat) : Int)).toNat = (b + n).toNat + 1 by omega]
          show cm_wr (smw _ (b + n).toNat + tv (goodM K (D 9 1) (((b + n).toNat : Nat) : Int) ∧ rch B (((b + n).toNat : Nat) : Int) b)) = _
          rw [show (((b + (n : Int)).toNat : Nat) : Int) = b + n by omega]
          have := tv_bb (goodM K (D 9 1) (b + n) ∧ rch B (b + n) b)
          exact cm_wr_id (by omega) (by omega)
        have e : cm_wr (b + n + 1) = b + n + 1 := cm_wr_id (by omega) (by omega)
        have en1 : b + ((n + 1 : Nat) : Int) = b + n + 1 := by omega
        rw [e1, sg_X2_mapsReaching_15, if_pos (by omega), e8, if_pos (by omega), ev_good hd' (by omega) (by omega), aft_v, sg_X2_mapsReaching_36, e9, e, en1]
        rw [en1] at ez
        by_cases hg : goodM K (D 9 1) (b + n)
        · obtain ⟨g, r1, r2, r3⟩ := ev_reach' (X := X) hd' (m := b + n) (Or.inr ⟨⟨by omega, by omega⟩, hg⟩) l1 (by omega)
          rw [tv_t hg, if_neg (by omega), r1, aft_n, sg_X2_mapsReaching_45, ck_t (by omega), e]
          refine ⟨_, ?_, eqL_tr ⟨q0, g0, rfl⟩ ⟨_, g, rfl⟩, by rw [show t + ((n + 1 : Nat) : Int) = t + n + 1 by omega]; exact r3⟩
          have e10 : mk14 (mk14 D q0 g0) (mk14 D q0 g0 9 10 + 1) g 9 10 = mk14 D q0 g0 9 10 + 1 := rfl
          have e14 : mk14 (mk14 D q0 g0) (mk14 D q0 g0 9 10 + 1) g 14 = g := rfl
          have r2 := (r2 b b0 (by omega)).1
          rw [e10, e14, ez]
          by_cases hr : rch B (b + n) b
          · rw [if_pos (r2.mpr hr), tv_t ⟨hg, hr⟩, cm_wr_id (by omega) (by omega)]
          · rw [if_neg (fun z => hr (r2.mp z)), tv_f (fun z => hr z.2), cm_wr_id (by omega) (by omega)]
        · refine ⟨_, ?_, ⟨q0, g0, rfl⟩, ?_⟩
          · rw [tv_f hg, if_pos rfl, ez, tv_f (fun z => hg z.1), Int.add_zero]
          · rw [show t + ((n + 1 : Nat) : Int) = t + n + 1 by omega]
            exact ⟨⟨l1.1.1, by have := l1.1.2; omega⟩, l1.2⟩
    obtain ⟨D', e1, q1, l1⟩ := key (h - b).toNat (by omega)
    rw [show b + (((h - b).toNat : Nat) : Int) = h by omega] at e1
    refine ⟨D', ?_, q1, ⟨⟨l1.1.1, by have := l1.1.2; omega⟩, l1.2⟩⟩
    rw [e1, sg_X2_mapsReaching_15, if_neg (by omega)]
  · refine ⟨D, ?_, eqL_rf D, ⟨⟨hl.1.1, by have := hl.1.2; omega⟩, hl.2⟩⟩
    rw [sg_X2_mapsReaching_15, if_neg hb, z0 h.toNat (by omega) (by omega)]
def deadP (K B : Int → Int) (m b : Int) : Prop := (3 ≤ K b ∧ K b ≤ 6) ∧ ¬ rch B m b
theorem ev_deadBlocks (hd : dOk D K B h) {m t : Int} (hm : mpO K (D 9 1) h m) (hl : lkOk D t) (ht : t < 1000000000) : ∃ D', cm_x 42 0 [some (.inr (.inr 9)), some (.inl (m)), some (.inl (h)), none, none] [] (cm_hp D X) = some (.inl (some (.inl (smw (fun b => tv (deadP K B m b)) h.toNat))), cm_hp D' X) ∧ eqL D D' ∧ lkOk D' (t + 1) := by
  have hs : h ≤ D 9 0 := hd.2.2.2.1
  have hz := hd.1.1
  have hh := hd.2.2.2.2
  obtain ⟨g, r1, r2, r3⟩ := ev_reach' (X := X) hd hm hl (by omega)
  refine ⟨_, ?_, ⟨_, g, rfl⟩, r3⟩
  rw [sg_X2_deadBlocks_0, r1, aft_n, sg_X2_deadBlocks_5]
  have L := lp_cnt (n := h.toNat) (f := fun b => tv (deadP K B m b)) (X := fun i a => cm_x 42 10 [some (.inr (.inr 9)), some (.inl (m)), some (.inl (h)), some (.inl (a)), some (.inl (i))] [] (cm_hp (mk14 D (D 9 10 + 1) g) X)) (by omega) (fun i _ _ => tv_bb _) (fun i a h1 h2 a1 a2 => by
    show cm_x 42 10 [some (.inr (.inr 9)), some (.inl (m)), some (.inl (h)), some (.inl (a)), some (.inl (i))] [] (cm_hp (mk14 D (D 9 10 + 1) g) X) = cm_x 42 10 [some (.inr (.inr 9)), some (.inl (m)), some (.inl (h)), some (.inl (a + tv (deadP K B m i))), some (.inl (i + 1))] [] (cm_hp (mk14 D (D 9 10 + 1) g) X)
    have e : cm_wr (i + 1) = i + 1 := cm_wr_id (by omega) (by omega)
    have e1 : cm_wr (a + 1) = a + 1 := cm_wr_id (by omega) (by omega)
    have e8 : mk14 D (D 9 10 + 1) g 9 0 = D 9 0 := rfl
    have e10 : mk14 D (D 9 10 + 1) g 9 10 = D 9 10 + 1 := rfl
    have e14 : mk14 D (D 9 10 + 1) g 14 = g := rfl
    have e11 : mk14 D (D 9 10 + 1) g 11 = D 11 := rfl
    have r2 := (r2 i h1 (by omega)).1
    rw [sg_X2_deadBlocks_10, if_pos (by omega), e8, if_pos (by omega), ck_t (by omega), e10, e14, e11, (hd.2.1 i h1 (by omega)).1, e, e1]
    by_cases k1 : K i < 3
    · rw [if_pos k1, tv_f (fun z => by have := z.1; omega), Int.add_zero]
    · rw [if_neg k1, ck_t (by omega)]
      by_cases k2 : 6 < K i
      · rw [if_pos k2, tv_f (fun z => by have := z.1; omega), Int.add_zero]
      · rw [if_neg k2, ck_t (by omega)]
        by_cases hr : rch B m i
        · rw [if_pos (r2.mpr hr), tv_f (fun z => z.2 hr), Int.add_zero]
        · rw [if_neg (fun z => hr (r2.mp z)), tv_t ⟨⟨by omega, by omega⟩, hr⟩])
  refine Eq.trans L ?_
  show cm_x 42 10 [some (.inr (.inr 9)), some (.inl (m)), some (.inl (h)), some (.inl (smw (fun b => tv (deadP K B m b)) h.toNat)), some (.inl (((h.toNat : Nat) : Int)))] [] (cm_hp (mk14 D (D 9 10 + 1) g) X) = _
  rw [sg_X2_deadBlocks_10, if_neg (by omega)]
