/-! one call of the law's loop -/
variable {t i : Int} {D : Nat → Int → Int} {X : cm_X} {q : cm_R}
/-- the loop goes on with the next call -/
def SS (t : Int) (D : Nat → Int → Int) (X : cm_X) (i : Int) (q : cm_R) : Prop := ∃ (E : Nat → Int → Int) (X' : cm_X), q = cm_x 293 23 [some (.inr (.inr 100000)), some (.inr (.inr 0)), some (.inr (.inr 613)), some (.inr (.inr 633)), some (.inl (i + 6)), none, none, none] [] (cm_hp E X') ∧ R E (t + 400) ∧ E 100000 = D 100000 ∧ X'.2.2.2 = X.2.2.2 ∧ X'.2.1 ≤ X.2.1 + 1 ∧ X'.2.2.1 ≤ X.2.2.1 + 6
theorem S_MM {cl md : cm_H → cm_R} {p1 p2 p3 p4 : Nat} (hq : MM t D X cl md) (hw : cm_wr (i + 6) = i + 6) (hrow : ∀ r D' X', cl (cm_hp D X) = some (r, cm_hp D' X') → D' 100000 = D 100000)
    (k1 : q = cm_aft 293 p1 p2 [some (.inr (.inr 100000)), some (.inr (.inr 0)), some (.inr (.inr 613)), some (.inr (.inr 633)), some (.inl (i)), none, none, none] [] (cl (cm_hp D X)))
    (k2 : ∀ (v : Int) (D' : Nat → Int → Int), D' 100000 = D 100000 → cm_x 293 p2 [some (.inr (.inr 100000)), some (.inr (.inr 0)), some (.inr (.inr 613)), some (.inr (.inr 633)), some (.inl (i)), none, none, none] [.inl v] (cm_hp D' X) = cm_aft 293 p3 p4 [some (.inr (.inr 100000)), some (.inr (.inr 0)), some (.inr (.inr 613)), some (.inr (.inr 633)), some (.inl (i)), none, none, none] [.inl v] (md (cm_hp D' X)))
    (k3 : ∀ (a : Int) (D : Nat → Int → Int), cm_x 293 p4 [some (.inr (.inr 100000)), some (.inr (.inr 0)), some (.inr (.inr 613)), some (.inr (.inr 633)), some (.inl (i)), none, none, none] [.inl a, .inl a] (cm_hp D X) = cm_x 293 1791 [some (.inr (.inr 100000)), some (.inr (.inr 0)), some (.inr (.inr 613)), some (.inr (.inr 633)), some (.inl (i)), none, none, none] [] (cm_hp D X)) : SS t D X i q := by
  obtain ⟨v, D1, e1, h⟩ := hq
  obtain ⟨E, e2, hE, hr⟩ := h X
  refine ⟨E, X, ?_, hE, hr, rfl, by omega, by omega⟩
  rw [k1, e1, aft_v, k2 v D1 (hrow _ _ _ e1), e2, aft_v, k3, sg_L_law_1791, hw]
theorem S_VV {cl md : cm_H → cm_R} {p1 p2 p3 p4 : Nat} (hq : VV t D X cl md) (hw : cm_wr (i + 6) = i + 6)
    (k1 : q = cm_aft 293 p1 p2 [some (.inr (.inr 100000)), some (.inr (.inr 0)), some (.inr (.inr 613)), some (.inr (.inr 633)), some (.inl (i)), none, none, none] [] (cl (cm_hp D X)))
    (k2 : ∀ D' : Nat → Int → Int, cm_x 293 p2 [some (.inr (.inr 100000)), some (.inr (.inr 0)), some (.inr (.inr 613)), some (.inr (.inr 633)), some (.inl (i)), none, none, none] [] (cm_hp D' X) = cm_aft 293 p3 p4 [some (.inr (.inr 100000)), some (.inr (.inr 0)), some (.inr (.inr 613)), some (.inr (.inr 633)), some (.inl (i)), none, none, none] [] (md (cm_hp D' X)))
    (k3 : ∀ D : Nat → Int → Int, cm_x 293 p4 [some (.inr (.inr 100000)), some (.inr (.inr 0)), some (.inr (.inr 613)), some (.inr (.inr 633)), some (.inl (i)), none, none, none] [] (cm_hp D X) = cm_x 293 1791 [some (.inr (.inr 100000)), some (.inr (.inr 0)), some (.inr (.inr 613)), some (.inr (.inr 633)), some (.inl (i)), none, none, none] [] (cm_hp D X)) : SS t D X i q := by
  obtain ⟨D1, e1, h⟩ := hq
  obtain ⟨E, e2, hE, hr⟩ := h X
  refine ⟨E, X, ?_, hE, hr, rfl, by omega, by omega⟩
  rw [k1, e1, aft_n, k2 D1, e2, aft_n, k3, sg_L_law_1791, hw]
theorem lc_0 (a : Int64) : cm_lc a a = 0 := if_pos rfl
theorem upJ (A : Nat → Int → Int64) (v : Int64) : cm_up A 633 0 v 633 0 = v := by
  unfold cm_up cm_u1
  rw [if_pos rfl, if_pos rfl]
theorem lc_u (A : Nat → Int → Int64) (v : Int64) (Z : Nat × Nat × Nat) : cm_lc ((cm_up A 633 0 v, Z).1 633 0) v = 0 := by
  show cm_lc (cm_up A 633 0 v 633 0) v = 0
  rw [upJ, lc_0]
theorem S_QQ {cl md : cm_H → cm_R} {e y a b c p1 p2 p3 p4 p5 p6 : Nat} {ls : cm_L} (hq : QQ t D X cl md e) (hw : cm_wr (i + 6) = i + 6) (hrow : ∀ r D' X', cl (cm_hp D X) = some (r, cm_hp D' X') → D' 100000 = D 100000)
    (hh : cm_hn (cm_hs y) a e = some c)
    (k1 : q = cm_aft 293 p1 p2 [some (.inr (.inr 100000)), some (.inr (.inr 0)), some (.inr (.inr 613)), some (.inr (.inr 633)), some (.inl (i)), none, none, none] [] (cm_aft y a b ls [.inl 0, .inr (.inr 633)] (cl (cm_hp D X))))
    (k2 : ∀ (D : Nat → Int → Int) (X : cm_X) (s : Int), cm_x y b ls [.inl s, .inl 0, .inr (.inr 633)] (cm_hp D X) = some (.inl (some (.inl 0)), cm_hp D (cm_up X.1 633 0 (Int64.ofInt s), X.2)))
    (k3 : ∀ (D : Nat → Int → Int) (X : cm_X), cm_x y c ls [.inr (.inr 300000)] (cm_hp D X) = some (.inl (some (.inl 1)), cm_hp D X))
    (k4 : ∀ (X' : cm_X) (v : Int) (D' : Nat → Int → Int), X'.2.2.2 = X.2.2.2 → D' 100000 = D 100000 → cm_x 293 p2 [some (.inr (.inr 100000)), some (.inr (.inr 0)), some (.inr (.inr 613)), some (.inr (.inr 633)), some (.inl (i)), none, none, none] [.inl v] (cm_hp D' X') = cm_aft 293 p3 p4 [some (.inr (.inr 100000)), some (.inr (.inr 0)), some (.inr (.inr 613)), some (.inr (.inr 633)), some (.inl (i)), some (.inl (v)), none, none] [] (md (cm_hp D' X')))
    (k5 : ∀ (v w : Int) (D : Nat → Int → Int) (X : cm_X), cm_x 293 p4 [some (.inr (.inr 100000)), some (.inr (.inr 0)), some (.inr (.inr 613)), some (.inr (.inr 633)), some (.inl (i)), some (.inl (v)), none, none] [.inl w] (cm_hp D X) = cm_aft 293 p5 p6 [some (.inr (.inr 100000)), some (.inr (.inr 0)), some (.inr (.inr 613)), some (.inr (.inr 633)), some (.inl (i)), some (.inl (v)), some (.inl (w)), none] [] (cm_x 162 0 [some (.inr (.inr 613))] [] (cm_hp D X)))
    (k6 : ∀ (v w u : Int) (D : Nat → Int → Int) (X : cm_X), cm_x 293 p6 [some (.inr (.inr 100000)), some (.inr (.inr 0)), some (.inr (.inr 613)), some (.inr (.inr 633)), some (.inl (i)), some (.inl (v)), some (.inl (w)), none] [.inl u] (cm_hp D X) = if u = v then (if v = 0 then (if cm_lc (X.1 633 0) (Int64.ofInt w) = 0 then cm_x 293 1791 [some (.inr (.inr 100000)), some (.inr (.inr 0)), some (.inr (.inr 613)), some (.inr (.inr 633)), some (.inl (i)), some (.inl (v)), some (.inl (w)), none] [] (cm_hp D X) else some (.inl (some (.inl 0)), cm_hp D X)) else cm_x 293 1791 [some (.inr (.inr 100000)), some (.inr (.inr 0)), some (.inr (.inr 613)), some (.inr (.inr 633)), some (.inl (i)), some (.inl (v)), some (.inl (w)), none] [] (cm_hp D X)) else some (.inl (some (.inl 0)), cm_hp D X)) : SS t D X i q := by
  obtain ⟨o, D1, e1, h⟩ := hq
  cases o with
  | some v =>
    have e1 : cl (cm_hp D X) = some (.inl (some (.inl v)), cm_hp D1 X) := e1
    obtain ⟨E, e2, e3, hE, hr⟩ := h (cm_up X.1 633 0 (Int64.ofInt v), X.2)
    have e2 : md (cm_hp D1 (cm_up X.1 633 0 (Int64.ofInt v), X.2)) = some (.inl (some (.inl v)), cm_hp E (cm_up X.1 633 0 (Int64.ofInt v), X.2)) := e2
    have e3 : E 613 0 = 0 := e3
    refine ⟨E, (cm_up X.1 633 0 (Int64.ofInt v), X.2), ?_, hE, hr, rfl, Nat.le_succ _, Nat.le_add_right _ _⟩
    rw [k1, e1, aft_v, k2, aft_v, k4 (cm_up X.1 633 0 (Int64.ofInt v), X.2) 0 D1 rfl (hrow _ _ _ e1), e2, aft_v, k5, sg_X9_thrown_0, aft_v, e3, k6, if_pos rfl, if_pos rfl, if_pos (lc_u _ _ _), sg_L_law_1791_1, hw]
  | none =>
    have e1 : cl (cm_hp D X) = some (.inr e, cm_hp D1 (cm_xx X)) := e1
    obtain ⟨E, e2, e3, hE, hr⟩ := h (cm_xx X)
    have e2 : md (cm_hp D1 (cm_xx X)) = some (.inl (some (.inl 0)), cm_hp E (cm_xx X)) := e2
    have e3 : E 613 0 = 1 := e3
    refine ⟨E, cm_xx X, ?_, hE, hr, rfl, Nat.le_refl _, Nat.le_refl _⟩
    rw [k1, e1, aft_h _ _ _ _ hh, k3, aft_v, k4 (cm_xx X) 1 D1 rfl (hrow _ _ _ e1), e2, aft_v, k5, sg_X9_thrown_0, aft_v, e3, k6, if_pos rfl, if_neg (by omega), sg_L_law_1791_1, hw]
theorem S_QL {cl md : cm_H → cm_R} {e y a b c p1 p2 p3 p4 p5 p6 : Nat} {ls : cm_L} (hq : QL t D X cl md e) (hw : cm_wr (i + 6) = i + 6) (hrow : ∀ r D' X', cl (cm_hp D X) = some (r, cm_hp D' X') → D' 100000 = D 100000)
    (hh : cm_hn (cm_hs y) a e = some c)
    (k1 : q = cm_aft 293 p1 p2 [some (.inr (.inr 100000)), some (.inr (.inr 0)), some (.inr (.inr 613)), some (.inr (.inr 633)), some (.inl (i)), none, none, none] [] (cm_aft y a b ls [.inl 0, .inr (.inr 633)] (cl (cm_hp D X))))
    (k2 : ∀ (D : Nat → Int → Int) (X : cm_X) (s : Int64), cm_x y b ls [.inr (.inl s), .inl 0, .inr (.inr 633)] (cm_hp D X) = some (.inl (some (.inl 0)), cm_hp D (cm_up X.1 633 0 s, X.2)))
    (k3 : ∀ (D : Nat → Int → Int) (X : cm_X), cm_x y c ls [.inr (.inr 300000)] (cm_hp D X) = some (.inl (some (.inl 1)), cm_hp D X))
    (k4 : ∀ (X' : cm_X) (v : Int) (D' : Nat → Int → Int), X'.2.2.2 = X.2.2.2 → D' 100000 = D 100000 → cm_x 293 p2 [some (.inr (.inr 100000)), some (.inr (.inr 0)), some (.inr (.inr 613)), some (.inr (.inr 633)), some (.inl (i)), none, none, none] [.inl v] (cm_hp D' X') = cm_aft 293 p3 p4 [some (.inr (.inr 100000)), some (.inr (.inr 0)), some (.inr (.inr 613)), some (.inr (.inr 633)), some (.inl (i)), some (.inl (v)), none, none] [] (md (cm_hp D' X')))
    (k5 : ∀ (v : Int) (w : Int64) (D : Nat → Int → Int) (X : cm_X), cm_x 293 p4 [some (.inr (.inr 100000)), some (.inr (.inr 0)), some (.inr (.inr 613)), some (.inr (.inr 633)), some (.inl (i)), some (.inl (v)), none, none] [.inr (.inl w)] (cm_hp D X) = cm_aft 293 p5 p6 [some (.inr (.inr 100000)), some (.inr (.inr 0)), some (.inr (.inr 613)), some (.inr (.inr 633)), some (.inl (i)), some (.inl (v)), some (.inr (.inl w)), none] [] (cm_x 162 0 [some (.inr (.inr 613))] [] (cm_hp D X)))
    (k6 : ∀ (v : Int) (w : Int64) (u : Int) (D : Nat → Int → Int) (X : cm_X), cm_x 293 p6 [some (.inr (.inr 100000)), some (.inr (.inr 0)), some (.inr (.inr 613)), some (.inr (.inr 633)), some (.inl (i)), some (.inl (v)), some (.inr (.inl w)), none] [.inl u] (cm_hp D X) = if u = v then (if v = 0 then (if cm_lc (X.1 633 0) w = 0 then cm_x 293 1791 [some (.inr (.inr 100000)), some (.inr (.inr 0)), some (.inr (.inr 613)), some (.inr (.inr 633)), some (.inl (i)), some (.inl (v)), some (.inr (.inl w)), none] [] (cm_hp D X) else some (.inl (some (.inl 0)), cm_hp D X)) else cm_x 293 1791 [some (.inr (.inr 100000)), some (.inr (.inr 0)), some (.inr (.inr 613)), some (.inr (.inr 633)), some (.inl (i)), some (.inl (v)), some (.inr (.inl w)), none] [] (cm_hp D X)) else some (.inl (some (.inl 0)), cm_hp D X)) : SS t D X i q := by
  obtain ⟨o, D1, e1, h⟩ := hq
  cases o with
  | some v =>
    have e1 : cl (cm_hp D X) = some (.inl (some (.inr (.inl v))), cm_hp D1 X) := e1
    obtain ⟨E, e2, e3, hE, hr⟩ := h (cm_up X.1 633 0 v, X.2)
    have e2 : md (cm_hp D1 (cm_up X.1 633 0 v, X.2)) = some (.inl (some (.inr (.inl v))), cm_hp E (cm_up X.1 633 0 v, X.2)) := e2
    have e3 : E 613 0 = 0 := e3
    refine ⟨E, (cm_up X.1 633 0 v, X.2), ?_, hE, hr, rfl, Nat.le_succ _, Nat.le_add_right _ _⟩
    rw [k1, e1, aft_v, k2, aft_v, k4 (cm_up X.1 633 0 v, X.2) 0 D1 rfl (hrow _ _ _ e1), e2, aft_v, k5, sg_X9_thrown_0, aft_v, e3, k6, if_pos rfl, if_pos rfl, if_pos (lc_u _ _ _), sg_L_law_1791_2, hw]
  | none =>
    have e1 : cl (cm_hp D X) = some (.inr e, cm_hp D1 (cm_xx X)) := e1
    obtain ⟨E, e2, e3, hE, hr⟩ := h (cm_xx X)
    have e2 : md (cm_hp D1 (cm_xx X)) = some (.inl (some (.inr (.inl 0))), cm_hp E (cm_xx X)) := e2
    have e3 : E 613 0 = 1 := e3
    refine ⟨E, cm_xx X, ?_, hE, hr, rfl, Nat.le_refl _, Nat.le_refl _⟩
    rw [k1, e1, aft_h _ _ _ _ hh, k3, aft_v, k4 (cm_xx X) 1 D1 rfl (hrow _ _ _ e1), e2, aft_v, k5, sg_X9_thrown_0, aft_v, e3, k6, if_pos rfl, if_neg (by omega), sg_L_law_1791_2, hw]
theorem S_QY {cl md : cm_H → cm_R} {y a b c1 c2 p1 p2 p3 p4 p5 p6 : Nat} {ls : cm_L} (hq : QY t D X cl md) (hw : cm_wr (i + 6) = i + 6) (hrow : ∀ r D' X', cl (cm_hp D X) = some (r, cm_hp D' X') → D' 100000 = D 100000)
    (hh : cm_hn (cm_hs y) a 0 = some c1) (hh2 : cm_hn (cm_hs y) a 1 = some c2)
    (k1 : q = cm_aft 293 p1 p2 [some (.inr (.inr 100000)), some (.inr (.inr 0)), some (.inr (.inr 613)), some (.inr (.inr 633)), some (.inl (i)), none, none, none] [] (cm_aft y a b ls [.inl 0, .inr (.inr 633)] (cl (cm_hp D X))))
    (k2 : ∀ (D : Nat → Int → Int) (X : cm_X) (s : Int), cm_x y b ls [.inl s, .inl 0, .inr (.inr 633)] (cm_hp D X) = some (.inl (some (.inl 0)), cm_hp D (cm_up X.1 633 0 (Int64.ofInt s), X.2)))
    (k3 : ∀ (D : Nat → Int → Int) (X : cm_X), cm_x y c1 ls [.inr (.inr 300000)] (cm_hp D X) = some (.inl (some (.inl 1)), cm_hp D X))
    (k3' : ∀ (D : Nat → Int → Int) (X : cm_X), cm_x y c2 ls [.inr (.inr 300000)] (cm_hp D X) = some (.inl (some (.inl 2)), cm_hp D X))
    (k4 : ∀ (X' : cm_X) (v : Int) (D' : Nat → Int → Int), X'.2.2.2 = X.2.2.2 → D' 100000 = D 100000 → cm_x 293 p2 [some (.inr (.inr 100000)), some (.inr (.inr 0)), some (.inr (.inr 613)), some (.inr (.inr 633)), some (.inl (i)), none, none, none] [.inl v] (cm_hp D' X') = cm_aft 293 p3 p4 [some (.inr (.inr 100000)), some (.inr (.inr 0)), some (.inr (.inr 613)), some (.inr (.inr 633)), some (.inl (i)), some (.inl (v)), none, none] [] (md (cm_hp D' X')))
    (k5 : ∀ (v w : Int) (D : Nat → Int → Int) (X : cm_X), cm_x 293 p4 [some (.inr (.inr 100000)), some (.inr (.inr 0)), some (.inr (.inr 613)), some (.inr (.inr 633)), some (.inl (i)), some (.inl (v)), none, none] [.inl w] (cm_hp D X) = cm_aft 293 p5 p6 [some (.inr (.inr 100000)), some (.inr (.inr 0)), some (.inr (.inr 613)), some (.inr (.inr 633)), some (.inl (i)), some (.inl (v)), some (.inl (w)), none] [] (cm_x 162 0 [some (.inr (.inr 613))] [] (cm_hp D X)))
    (k6 : ∀ (v w u : Int) (D : Nat → Int → Int) (X : cm_X), cm_x 293 p6 [some (.inr (.inr 100000)), some (.inr (.inr 0)), some (.inr (.inr 613)), some (.inr (.inr 633)), some (.inl (i)), some (.inl (v)), some (.inl (w)), none] [.inl u] (cm_hp D X) = if u = v then (if v = 0 then (if cm_lc (X.1 633 0) (Int64.ofInt w) = 0 then cm_x 293 1791 [some (.inr (.inr 100000)), some (.inr (.inr 0)), some (.inr (.inr 613)), some (.inr (.inr 633)), some (.inl (i)), some (.inl (v)), some (.inl (w)), none] [] (cm_hp D X) else some (.inl (some (.inl 0)), cm_hp D X)) else cm_x 293 1791 [some (.inr (.inr 100000)), some (.inr (.inr 0)), some (.inr (.inr 613)), some (.inr (.inr 633)), some (.inl (i)), some (.inl (v)), some (.inl (w)), none] [] (cm_hp D X)) else some (.inl (some (.inl 0)), cm_hp D X)) : SS t D X i q := by
  rcases hq with ⟨v, D1, e1, h⟩ | ⟨e, he, e1, h⟩
  · obtain ⟨E, e2, e3, hE, hr⟩ := h (cm_up X.1 633 0 (Int64.ofInt v), X.2)
    refine ⟨E, (cm_up X.1 633 0 (Int64.ofInt v), X.2), ?_, hE, hr, rfl, Nat.le_succ _, Nat.le_add_right _ _⟩
    rw [k1, e1, aft_v, k2, aft_v, k4 (cm_up X.1 633 0 (Int64.ofInt v), X.2) 0 D1 rfl (hrow _ _ _ e1), e2, aft_v, k5, sg_X9_thrown_0, aft_v, e3, k6, if_pos rfl, if_pos rfl, if_pos (lc_u _ _ _), sg_L_law_1791_1, hw]
  · obtain ⟨E, e2, e3, hE, hr⟩ := h (cm_xx X)
    refine ⟨E, cm_xx X, ?_, hE, hr, rfl, Nat.le_refl _, Nat.le_refl _⟩
    rcases he with he | he
    · subst he
      have e3 : E 613 0 = 1 := e3
      rw [k1, e1, aft_h _ _ _ _ hh, k3, aft_v, k4 (cm_xx X) 1 D rfl rfl, e2, aft_v, k5, sg_X9_thrown_0, aft_v, e3, k6, if_pos rfl, if_neg (by omega), sg_L_law_1791_1, hw]
    · subst he
      have e3 : E 613 0 = 2 := e3
      rw [k1, e1, aft_h _ _ _ _ hh2, k3', aft_v, k4 (cm_xx X) 2 D rfl rfl, e2, aft_v, k5, sg_X9_thrown_0, aft_v, e3, k6, if_pos rfl, if_neg (by omega), sg_L_law_1791_1, hw]

theorem st_feed (hR : R D t) (ht : 0 ≤ t ∧ t < 1000000) (hI : ∀ j, i32 (D 100000 j)) (h0 : 0 ≤ i) (h6 : i + 6 ≤ (X.2.2.2 : Int)) (hL : X.2.2.2 ≤ 3072) : SS t D X i (cm_x 293 196 [some (.inr (.inr 100000)), some (.inr (.inr 0)), some (.inr (.inr 613)), some (.inr (.inr 633)), some (.inl (i)), none, none, none] [] (cm_hp D X)) := by
  have w1 : cm_wr (i + 1) = i + 1 := cm_wr_id (by omega) (by omega)
  have c1 : 0 ≤ i + 1 ∧ i + 1 < (X.2.2.2 : Int) := by omega
  have w2 : cm_wr (i + 2) = i + 2 := cm_wr_id (by omega) (by omega)
  have c2 : 0 ≤ i + 2 ∧ i + 2 < (X.2.2.2 : Int) := by omega
  have w3 : cm_wr (i + 3) = i + 3 := cm_wr_id (by omega) (by omega)
  have c3 : 0 ≤ i + 3 ∧ i + 3 < (X.2.2.2 : Int) := by omega
  have w4 : cm_wr (i + 4) = i + 4 := cm_wr_id (by omega) (by omega)
  have c4 : 0 ≤ i + 4 ∧ i + 4 < (X.2.2.2 : Int) := by omega
  have w5 : cm_wr (i + 5) = i + 5 := cm_wr_id (by omega) (by omega)
  have c5 : 0 ≤ i + 5 ∧ i + 5 < (X.2.2.2 : Int) := by omega
  have w6 : cm_wr (i + 6) = i + 6 := cm_wr_id (by omega) (by omega)
  refine S_MM (p1 := 227) (p2 := 230) (p3 := 261) (p4 := 264) (q_feed hR X (x1 := (D 100000 (i + 1))) (x2 := (D 100000 (i + 2))) (x3 := (D 100000 (i + 3))) (x4 := (D 100000 (i + 4))) (x5 := (D 100000 (i + 5)))) w6 (fun r D1 X1 h => x_row h) ?_ ?_ (fun a D => by rw [sg_L_law_264, if_pos rfl])
  · rw [sg_L_law_196, w1, w2, w3, w4, w5, ck_t c1, ck_t c2, ck_t c3, ck_t c4, ck_t c5]
  · intro v D1 hD
    rw [sg_L_law_230, w1, w2, w3, w4, w5, ck_t c1, ck_t c2, ck_t c3, ck_t c4, ck_t c5, hD]
theorem st_disc (hR : R D t) (ht : 0 ≤ t ∧ t < 1000000) (hI : ∀ j, i32 (D 100000 j)) (h0 : 0 ≤ i) (h6 : i + 6 ≤ (X.2.2.2 : Int)) (hL : X.2.2.2 ≤ 3072) : SS t D X i (cm_x 293 269 [some (.inr (.inr 100000)), some (.inr (.inr 0)), some (.inr (.inr 613)), some (.inr (.inr 633)), some (.inl (i)), none, none, none] [] (cm_hp D X)) := by
  have w1 : cm_wr (i + 1) = i + 1 := cm_wr_id (by omega) (by omega)
  have c1 : 0 ≤ i + 1 ∧ i + 1 < (X.2.2.2 : Int) := by omega
  have w6 : cm_wr (i + 6) = i + 6 := cm_wr_id (by omega) (by omega)
  refine S_QQ (y := 276) (a := 4) (b := 7) (c := 12) (p1 := 277) (p2 := 280) (p3 := 289) (p4 := 292) (p5 := 295) (p6 := 298) (ls := [some (.inr (.inr 0)), some (.inl (D 100000 (i + 1))), some (.inr (.inr 633)), none]) (q_disc hR X (D 100000 (i + 1))) w6 (fun r D1 X1 h => x_row h) rfl ?_ (fun D X s => sg_L_disc_7 D X _ s) (fun D X => sg_L_disc_12 D X _) ?_ (fun v w D X => sg_L_law_292 D X i v w) (fun v w u D X => sg_L_law_298 D X i v w u)
  · rw [sg_L_law_269, w1, ck_t c1, sg_L_disc_0]
  · intro X1 v D1 hX hD
    rw [sg_L_law_280, hX, w1, ck_t c1, hD]
theorem st_fault (hR : R D t) (ht : 0 ≤ t ∧ t < 1000000) (hI : ∀ j, i32 (D 100000 j)) (h0 : 0 ≤ i) (h6 : i + 6 ≤ (X.2.2.2 : Int)) (hL : X.2.2.2 ≤ 3072) : SS t D X i (cm_x 293 325 [some (.inr (.inr 100000)), some (.inr (.inr 0)), some (.inr (.inr 613)), some (.inr (.inr 633)), some (.inl (i)), none, none, none] [] (cm_hp D X)) := by
  have w6 : cm_wr (i + 6) = i + 6 := cm_wr_id (by omega) (by omega)
  refine S_MM (p1 := 326) (p2 := 329) (p3 := 330) (p4 := 333) (q_fault hR X ) w6 (fun r D1 X1 h => x_row h) ?_ ?_ (fun a D => by rw [sg_L_law_333, if_pos rfl])
  · rw [sg_L_law_325]
  · intro v D1 hD
    rw [sg_L_law_329]
theorem st_count (hR : R D t) (ht : 0 ≤ t ∧ t < 1000000) (hI : ∀ j, i32 (D 100000 j)) (h0 : 0 ≤ i) (h6 : i + 6 ≤ (X.2.2.2 : Int)) (hL : X.2.2.2 ≤ 3072) : SS t D X i (cm_x 293 338 [some (.inr (.inr 100000)), some (.inr (.inr 0)), some (.inr (.inr 613)), some (.inr (.inr 633)), some (.inl (i)), none, none, none] [] (cm_hp D X)) := by
  have w1 : cm_wr (i + 1) = i + 1 := cm_wr_id (by omega) (by omega)
  have c1 : 0 ≤ i + 1 ∧ i + 1 < (X.2.2.2 : Int) := by omega
  have w6 : cm_wr (i + 6) = i + 6 := cm_wr_id (by omega) (by omega)
  refine S_QQ (y := 277) (a := 4) (b := 7) (c := 12) (p1 := 346) (p2 := 349) (p3 := 358) (p4 := 361) (p5 := 364) (p6 := 367) (ls := [some (.inr (.inr 0)), some (.inl (D 100000 (i + 1))), some (.inr (.inr 633)), none]) (q_count hR ht X (D 100000 (i + 1))) w6 (fun r D1 X1 h => x_row h) rfl ?_ (fun D X s => sg_L_count_7 D X _ s) (fun D X => sg_L_count_12 D X _) ?_ (fun v w D X => sg_L_law_361 D X i v w) (fun v w u D X => sg_L_law_367 D X i v w u)
  · rw [sg_L_law_338, w1, ck_t c1, sg_L_count_0]
  · intro X1 v D1 hX hD
    rw [sg_L_law_349, hX, w1, ck_t c1, hD]
theorem st_block (hR : R D t) (ht : 0 ≤ t ∧ t < 1000000) (hI : ∀ j, i32 (D 100000 j)) (h0 : 0 ≤ i) (h6 : i + 6 ≤ (X.2.2.2 : Int)) (hL : X.2.2.2 ≤ 3072) : SS t D X i (cm_x 293 394 [some (.inr (.inr 100000)), some (.inr (.inr 0)), some (.inr (.inr 613)), some (.inr (.inr 633)), some (.inl (i)), none, none, none] [] (cm_hp D X)) := by
  have w1 : cm_wr (i + 1) = i + 1 := cm_wr_id (by omega) (by omega)
  have c1 : 0 ≤ i + 1 ∧ i + 1 < (X.2.2.2 : Int) := by omega
  have w2 : cm_wr (i + 2) = i + 2 := cm_wr_id (by omega) (by omega)
  have c2 : 0 ≤ i + 2 ∧ i + 2 < (X.2.2.2 : Int) := by omega
  have w6 : cm_wr (i + 6) = i + 6 := cm_wr_id (by omega) (by omega)
  refine S_QQ (y := 278) (a := 5) (b := 8) (c := 13) (p1 := 408) (p2 := 411) (p3 := 426) (p4 := 429) (p5 := 432) (p6 := 435) (ls := [some (.inr (.inr 0)), some (.inl (D 100000 (i + 1))), some (.inl (D 100000 (i + 2))), some (.inr (.inr 633)), none]) (q_block hR ht X (D 100000 (i + 1)) (D 100000 (i + 2))) w6 (fun r D1 X1 h => x_row h) rfl ?_ (fun D X s => sg_L_block_8 D X _ _ s) (fun D X => sg_L_block_13 D X _ _) ?_ (fun v w D X => sg_L_law_429 D X i v w) (fun v w u D X => sg_L_law_435 D X i v w u)
  · rw [sg_L_law_394, w1, w2, ck_t c1, ck_t c2, sg_L_block_0]
  · intro X1 v D1 hX hD
    rw [sg_L_law_411, hX, w1, w2, ck_t c1, ck_t c2, hD]
theorem st_tells (hR : R D t) (ht : 0 ≤ t ∧ t < 1000000) (hI : ∀ j, i32 (D 100000 j)) (h0 : 0 ≤ i) (h6 : i + 6 ≤ (X.2.2.2 : Int)) (hL : X.2.2.2 ≤ 3072) : SS t D X i (cm_x 293 462 [some (.inr (.inr 100000)), some (.inr (.inr 0)), some (.inr (.inr 613)), some (.inr (.inr 633)), some (.inl (i)), none, none, none] [] (cm_hp D X)) := by
  have w1 : cm_wr (i + 1) = i + 1 := cm_wr_id (by omega) (by omega)
  have c1 : 0 ≤ i + 1 ∧ i + 1 < (X.2.2.2 : Int) := by omega
  have w2 : cm_wr (i + 2) = i + 2 := cm_wr_id (by omega) (by omega)
  have c2 : 0 ≤ i + 2 ∧ i + 2 < (X.2.2.2 : Int) := by omega
  have w6 : cm_wr (i + 6) = i + 6 := cm_wr_id (by omega) (by omega)
  refine S_QQ (y := 279) (a := 5) (b := 8) (c := 13) (p1 := 476) (p2 := 479) (p3 := 494) (p4 := 497) (p5 := 500) (p6 := 503) (ls := [some (.inr (.inr 0)), some (.inl (D 100000 (i + 1))), some (.inl (D 100000 (i + 2))), some (.inr (.inr 633)), none]) (q_tells hR X (D 100000 (i + 1)) (D 100000 (i + 2))) w6 (fun r D1 X1 h => x_row h) rfl ?_ (fun D X s => sg_L_tells_8 D X _ _ s) (fun D X => sg_L_tells_13 D X _ _) ?_ (fun v w D X => sg_L_law_497 D X i v w) (fun v w u D X => sg_L_law_503 D X i v w u)
  · rw [sg_L_law_462, w1, w2, ck_t c1, ck_t c2, sg_L_tells_0]
  · intro X1 v D1 hX hD
    rw [sg_L_law_479, hX, w1, w2, ck_t c1, ck_t c2, hD]
theorem st_file (hR : R D t) (ht : 0 ≤ t ∧ t < 1000000) (hI : ∀ j, i32 (D 100000 j)) (h0 : 0 ≤ i) (h6 : i + 6 ≤ (X.2.2.2 : Int)) (hL : X.2.2.2 ≤ 3072) : SS t D X i (cm_x 293 530 [some (.inr (.inr 100000)), some (.inr (.inr 0)), some (.inr (.inr 613)), some (.inr (.inr 633)), some (.inl (i)), none, none, none] [] (cm_hp D X)) := by
  have w1 : cm_wr (i + 1) = i + 1 := cm_wr_id (by omega) (by omega)
  have c1 : 0 ≤ i + 1 ∧ i + 1 < (X.2.2.2 : Int) := by omega
  have w2 : cm_wr (i + 2) = i + 2 := cm_wr_id (by omega) (by omega)
  have c2 : 0 ≤ i + 2 ∧ i + 2 < (X.2.2.2 : Int) := by omega
  have w6 : cm_wr (i + 6) = i + 6 := cm_wr_id (by omega) (by omega)
  refine S_QQ (y := 280) (a := 5) (b := 8) (c := 13) (p1 := 544) (p2 := 547) (p3 := 562) (p4 := 565) (p5 := 568) (p6 := 571) (ls := [some (.inr (.inr 0)), some (.inl (D 100000 (i + 1))), some (.inl (D 100000 (i + 2))), some (.inr (.inr 633)), none]) (q_file hR X (D 100000 (i + 1)) (D 100000 (i + 2))) w6 (fun r D1 X1 h => x_row h) rfl ?_ (fun D X s => sg_L_file_8 D X _ _ s) (fun D X => sg_L_file_13 D X _ _) ?_ (fun v w D X => sg_L_law_565 D X i v w) (fun v w u D X => sg_L_law_571 D X i v w u)
  · rw [sg_L_law_530, w1, w2, ck_t c1, ck_t c2, sg_L_file_0]
  · intro X1 v D1 hX hD
    rw [sg_L_law_547, hX, w1, w2, ck_t c1, ck_t c2, hD]
theorem st_lie (hR : R D t) (ht : 0 ≤ t ∧ t < 1000000) (hI : ∀ j, i32 (D 100000 j)) (h0 : 0 ≤ i) (h6 : i + 6 ≤ (X.2.2.2 : Int)) (hL : X.2.2.2 ≤ 3072) : SS t D X i (cm_x 293 598 [some (.inr (.inr 100000)), some (.inr (.inr 0)), some (.inr (.inr 613)), some (.inr (.inr 633)), some (.inl (i)), none, none, none] [] (cm_hp D X)) := by
  have w1 : cm_wr (i + 1) = i + 1 := cm_wr_id (by omega) (by omega)
  have c1 : 0 ≤ i + 1 ∧ i + 1 < (X.2.2.2 : Int) := by omega
  have w2 : cm_wr (i + 2) = i + 2 := cm_wr_id (by omega) (by omega)
  have c2 : 0 ≤ i + 2 ∧ i + 2 < (X.2.2.2 : Int) := by omega
  have w6 : cm_wr (i + 6) = i + 6 := cm_wr_id (by omega) (by omega)
  refine S_QQ (y := 281) (a := 5) (b := 8) (c := 13) (p1 := 612) (p2 := 615) (p3 := 630) (p4 := 633) (p5 := 636) (p6 := 639) (ls := [some (.inr (.inr 0)), some (.inl (D 100000 (i + 1))), some (.inl (D 100000 (i + 2))), some (.inr (.inr 633)), none]) (q_lie hR X (D 100000 (i + 1)) (D 100000 (i + 2))) w6 (fun r D1 X1 h => x_row h) rfl ?_ (fun D X s => sg_L_lie_8 D X _ _ s) (fun D X => sg_L_lie_13 D X _ _) ?_ (fun v w D X => sg_L_law_633 D X i v w) (fun v w u D X => sg_L_law_639 D X i v w u)
  · rw [sg_L_law_598, w1, w2, ck_t c1, ck_t c2, sg_L_lie_0]
  · intro X1 v D1 hX hD
    rw [sg_L_law_615, hX, w1, w2, ck_t c1, ck_t c2, hD]
theorem st_read (hR : R D t) (ht : 0 ≤ t ∧ t < 1000000) (hI : ∀ j, i32 (D 100000 j)) (h0 : 0 ≤ i) (h6 : i + 6 ≤ (X.2.2.2 : Int)) (hL : X.2.2.2 ≤ 3072) : SS t D X i (cm_x 293 666 [some (.inr (.inr 100000)), some (.inr (.inr 0)), some (.inr (.inr 613)), some (.inr (.inr 633)), some (.inl (i)), none, none, none] [] (cm_hp D X)) := by
  have w1 : cm_wr (i + 1) = i + 1 := cm_wr_id (by omega) (by omega)
  have c1 : 0 ≤ i + 1 ∧ i + 1 < (X.2.2.2 : Int) := by omega
  have w2 : cm_wr (i + 2) = i + 2 := cm_wr_id (by omega) (by omega)
  have c2 : 0 ≤ i + 2 ∧ i + 2 < (X.2.2.2 : Int) := by omega
  have w6 : cm_wr (i + 6) = i + 6 := cm_wr_id (by omega) (by omega)
  refine S_QQ (y := 282) (a := 5) (b := 8) (c := 13) (p1 := 680) (p2 := 683) (p3 := 698) (p4 := 701) (p5 := 704) (p6 := 707) (ls := [some (.inr (.inr 0)), some (.inl (D 100000 (i + 1))), some (.inl (D 100000 (i + 2))), some (.inr (.inr 633)), none]) (q_read hR X (D 100000 (i + 1)) (D 100000 (i + 2))) w6 (fun r D1 X1 h => x_row h) rfl ?_ (fun D X s => sg_L_read_8 D X _ _ s) (fun D X => sg_L_read_13 D X _ _) ?_ (fun v w D X => sg_L_law_701 D X i v w) (fun v w u D X => sg_L_law_707 D X i v w u)
  · rw [sg_L_law_666, w1, w2, ck_t c1, ck_t c2, sg_L_read_0]
  · intro X1 v D1 hX hD
    rw [sg_L_law_683, hX, w1, w2, ck_t c1, ck_t c2, hD]
theorem st_past (hR : R D t) (ht : 0 ≤ t ∧ t < 1000000) (hI : ∀ j, i32 (D 100000 j)) (h0 : 0 ≤ i) (h6 : i + 6 ≤ (X.2.2.2 : Int)) (hL : X.2.2.2 ≤ 3072) : SS t D X i (cm_x 293 734 [some (.inr (.inr 100000)), some (.inr (.inr 0)), some (.inr (.inr 613)), some (.inr (.inr 633)), some (.inl (i)), none, none, none] [] (cm_hp D X)) := by
  have w1 : cm_wr (i + 1) = i + 1 := cm_wr_id (by omega) (by omega)
  have c1 : 0 ≤ i + 1 ∧ i + 1 < (X.2.2.2 : Int) := by omega
  have w2 : cm_wr (i + 2) = i + 2 := cm_wr_id (by omega) (by omega)
  have c2 : 0 ≤ i + 2 ∧ i + 2 < (X.2.2.2 : Int) := by omega
  have w3 : cm_wr (i + 3) = i + 3 := cm_wr_id (by omega) (by omega)
  have c3 : 0 ≤ i + 3 ∧ i + 3 < (X.2.2.2 : Int) := by omega
  have w6 : cm_wr (i + 6) = i + 6 := cm_wr_id (by omega) (by omega)
  refine S_QQ (y := 283) (a := 7) (b := 10) (c := 15) (p1 := 754) (p2 := 757) (p3 := 778) (p4 := 781) (p5 := 784) (p6 := 787) (ls := [some (.inr (.inr 0)), some (.inl (D 100000 (i + 1))), some (.inl (D 100000 (i + 2))), some (.inl (D 100000 (i + 3))), some (.inr (.inr 633)), none]) (q_past hR X (hI (i + 1)) (D 100000 (i + 2)) (D 100000 (i + 3))) w6 (fun r D1 X1 h => x_row h) rfl ?_ (fun D X s => sg_L_past_10 D X _ _ _ s) (fun D X => sg_L_past_15 D X _ _ _) ?_ (fun v w D X => sg_L_law_781 D X i v w) (fun v w u D X => sg_L_law_787 D X i v w u)
  · rw [sg_L_law_734, w1, w2, w3, ck_t c1, ck_t c2, ck_t c3, sg_L_past_0]
  · intro X1 v D1 hX hD
    rw [sg_L_law_757, hX, w1, w2, w3, ck_t c1, ck_t c2, ck_t c3, hD]
theorem st_versions (hR : R D t) (ht : 0 ≤ t ∧ t < 1000000) (hI : ∀ j, i32 (D 100000 j)) (h0 : 0 ≤ i) (h6 : i + 6 ≤ (X.2.2.2 : Int)) (hL : X.2.2.2 ≤ 3072) : SS t D X i (cm_x 293 814 [some (.inr (.inr 100000)), some (.inr (.inr 0)), some (.inr (.inr 613)), some (.inr (.inr 633)), some (.inl (i)), none, none, none] [] (cm_hp D X)) := by
  have w1 : cm_wr (i + 1) = i + 1 := cm_wr_id (by omega) (by omega)
  have c1 : 0 ≤ i + 1 ∧ i + 1 < (X.2.2.2 : Int) := by omega
  have w6 : cm_wr (i + 6) = i + 6 := cm_wr_id (by omega) (by omega)
  refine S_QQ (y := 284) (a := 4) (b := 7) (c := 12) (p1 := 822) (p2 := 825) (p3 := 834) (p4 := 837) (p5 := 840) (p6 := 843) (ls := [some (.inr (.inr 0)), some (.inl (D 100000 (i + 1))), some (.inr (.inr 633)), none]) (q_versions hR X (D 100000 (i + 1))) w6 (fun r D1 X1 h => x_row h) rfl ?_ (fun D X s => sg_L_versions_7 D X _ s) (fun D X => sg_L_versions_12 D X _) ?_ (fun v w D X => sg_L_law_837 D X i v w) (fun v w u D X => sg_L_law_843 D X i v w u)
  · rw [sg_L_law_814, w1, ck_t c1, sg_L_versions_0]
  · intro X1 v D1 hX hD
    rw [sg_L_law_825, hX, w1, ck_t c1, hD]
theorem st_since (hR : R D t) (ht : 0 ≤ t ∧ t < 1000000) (hI : ∀ j, i32 (D 100000 j)) (h0 : 0 ≤ i) (h6 : i + 6 ≤ (X.2.2.2 : Int)) (hL : X.2.2.2 ≤ 3072) : SS t D X i (cm_x 293 870 [some (.inr (.inr 100000)), some (.inr (.inr 0)), some (.inr (.inr 613)), some (.inr (.inr 633)), some (.inl (i)), none, none, none] [] (cm_hp D X)) := by
  have w1 : cm_wr (i + 1) = i + 1 := cm_wr_id (by omega) (by omega)
  have c1 : 0 ≤ i + 1 ∧ i + 1 < (X.2.2.2 : Int) := by omega
  have w2 : cm_wr (i + 2) = i + 2 := cm_wr_id (by omega) (by omega)
  have c2 : 0 ≤ i + 2 ∧ i + 2 < (X.2.2.2 : Int) := by omega
  have w3 : cm_wr (i + 3) = i + 3 := cm_wr_id (by omega) (by omega)
  have c3 : 0 ≤ i + 3 ∧ i + 3 < (X.2.2.2 : Int) := by omega
  have w6 : cm_wr (i + 6) = i + 6 := cm_wr_id (by omega) (by omega)
  refine S_QQ (y := 285) (a := 7) (b := 10) (c := 15) (p1 := 890) (p2 := 893) (p3 := 914) (p4 := 917) (p5 := 920) (p6 := 923) (ls := [some (.inr (.inr 0)), some (.inl (D 100000 (i + 1))), some (.inl (D 100000 (i + 2))), some (.inl (D 100000 (i + 3))), some (.inr (.inr 633)), none]) (q_since hR X (D 100000 (i + 1)) (D 100000 (i + 2)) (D 100000 (i + 3))) w6 (fun r D1 X1 h => x_row h) rfl ?_ (fun D X s => sg_L_since_10 D X _ _ _ s) (fun D X => sg_L_since_15 D X _ _ _) ?_ (fun v w D X => sg_L_law_917 D X i v w) (fun v w u D X => sg_L_law_923 D X i v w u)
  · rw [sg_L_law_870, w1, w2, w3, ck_t c1, ck_t c2, ck_t c3, sg_L_since_0]
  · intro X1 v D1 hX hD
    rw [sg_L_law_893, hX, w1, w2, w3, ck_t c1, ck_t c2, ck_t c3, hD]
theorem st_alike (hR : R D t) (ht : 0 ≤ t ∧ t < 1000000) (hI : ∀ j, i32 (D 100000 j)) (h0 : 0 ≤ i) (h6 : i + 6 ≤ (X.2.2.2 : Int)) (hL : X.2.2.2 ≤ 3072) : SS t D X i (cm_x 293 950 [some (.inr (.inr 100000)), some (.inr (.inr 0)), some (.inr (.inr 613)), some (.inr (.inr 633)), some (.inl (i)), none, none, none] [] (cm_hp D X)) := by
  have w1 : cm_wr (i + 1) = i + 1 := cm_wr_id (by omega) (by omega)
  have c1 : 0 ≤ i + 1 ∧ i + 1 < (X.2.2.2 : Int) := by omega
  have w6 : cm_wr (i + 6) = i + 6 := cm_wr_id (by omega) (by omega)
  refine S_QQ (y := 286) (a := 4) (b := 7) (c := 12) (p1 := 958) (p2 := 961) (p3 := 970) (p4 := 973) (p5 := 976) (p6 := 979) (ls := [some (.inr (.inr 0)), some (.inl (D 100000 (i + 1))), some (.inr (.inr 633)), none]) (q_alike hR X (hI (i + 1))) w6 (fun r D1 X1 h => x_row h) rfl ?_ (fun D X s => sg_L_alike_7 D X _ s) (fun D X => sg_L_alike_12 D X _) ?_ (fun v w D X => sg_L_law_973 D X i v w) (fun v w u D X => sg_L_law_979 D X i v w u)
  · rw [sg_L_law_950, w1, ck_t c1, sg_L_alike_0]
  · intro X1 v D1 hX hD
    rw [sg_L_law_961, hX, w1, ck_t c1, hD]
theorem st_set (hR : R D t) (ht : 0 ≤ t ∧ t < 1000000) (hI : ∀ j, i32 (D 100000 j)) (h0 : 0 ≤ i) (h6 : i + 6 ≤ (X.2.2.2 : Int)) (hL : X.2.2.2 ≤ 3072) : SS t D X i (cm_x 293 1006 [some (.inr (.inr 100000)), some (.inr (.inr 0)), some (.inr (.inr 613)), some (.inr (.inr 633)), some (.inl (i)), none, none, none] [] (cm_hp D X)) := by
  have w1 : cm_wr (i + 1) = i + 1 := cm_wr_id (by omega) (by omega)
  have c1 : 0 ≤ i + 1 ∧ i + 1 < (X.2.2.2 : Int) := by omega
  have w2 : cm_wr (i + 2) = i + 2 := cm_wr_id (by omega) (by omega)
  have c2 : 0 ≤ i + 2 ∧ i + 2 < (X.2.2.2 : Int) := by omega
  have w3 : cm_wr (i + 3) = i + 3 := cm_wr_id (by omega) (by omega)
  have c3 : 0 ≤ i + 3 ∧ i + 3 < (X.2.2.2 : Int) := by omega
  have w6 : cm_wr (i + 6) = i + 6 := cm_wr_id (by omega) (by omega)
  refine S_MM (p1 := 1025) (p2 := 1028) (p3 := 1047) (p4 := 1050) (q_set hR X (D 100000 (i + 1)) (D 100000 (i + 2)) (D 100000 (i + 3))) w6 (fun r D1 X1 h => x_row h) ?_ ?_ (fun a D => by rw [sg_L_law_1050, if_pos rfl])
  · rw [sg_L_law_1006, w1, w2, w3, ck_t c1, ck_t c2, ck_t c3]
  · intro v D1 hD
    rw [sg_L_law_1028, w1, w2, w3, ck_t c1, ck_t c2, ck_t c3, hD]
theorem st_cut (hR : R D t) (ht : 0 ≤ t ∧ t < 1000000) (hI : ∀ j, i32 (D 100000 j)) (h0 : 0 ≤ i) (h6 : i + 6 ≤ (X.2.2.2 : Int)) (hL : X.2.2.2 ≤ 3072) : SS t D X i (cm_x 293 1055 [some (.inr (.inr 100000)), some (.inr (.inr 0)), some (.inr (.inr 613)), some (.inr (.inr 633)), some (.inl (i)), none, none, none] [] (cm_hp D X)) := by
  have w1 : cm_wr (i + 1) = i + 1 := cm_wr_id (by omega) (by omega)
  have c1 : 0 ≤ i + 1 ∧ i + 1 < (X.2.2.2 : Int) := by omega
  have w2 : cm_wr (i + 2) = i + 2 := cm_wr_id (by omega) (by omega)
  have c2 : 0 ≤ i + 2 ∧ i + 2 < (X.2.2.2 : Int) := by omega
  have w6 : cm_wr (i + 6) = i + 6 := cm_wr_id (by omega) (by omega)
  refine S_MM (p1 := 1068) (p2 := 1071) (p3 := 1084) (p4 := 1087) (q_cut hR X (D 100000 (i + 1)) (D 100000 (i + 2))) w6 (fun r D1 X1 h => x_row h) ?_ ?_ (fun a D => by rw [sg_L_law_1087, if_pos rfl])
  · rw [sg_L_law_1055, w1, w2, ck_t c1, ck_t c2]
  · intro v D1 hD
    rw [sg_L_law_1071, w1, w2, ck_t c1, ck_t c2, hD]
theorem st_erase (hR : R D t) (ht : 0 ≤ t ∧ t < 1000000) (hI : ∀ j, i32 (D 100000 j)) (h0 : 0 ≤ i) (h6 : i + 6 ≤ (X.2.2.2 : Int)) (hL : X.2.2.2 ≤ 3072) : SS t D X i (cm_x 293 1092 [some (.inr (.inr 100000)), some (.inr (.inr 0)), some (.inr (.inr 613)), some (.inr (.inr 633)), some (.inl (i)), none, none, none] [] (cm_hp D X)) := by
  have w1 : cm_wr (i + 1) = i + 1 := cm_wr_id (by omega) (by omega)
  have c1 : 0 ≤ i + 1 ∧ i + 1 < (X.2.2.2 : Int) := by omega
  have w6 : cm_wr (i + 6) = i + 6 := cm_wr_id (by omega) (by omega)
  refine S_MM (p1 := 1099) (p2 := 1102) (p3 := 1109) (p4 := 1112) (q_erase hR X (D 100000 (i + 1))) w6 (fun r D1 X1 h => x_row h) ?_ ?_ (fun a D => by rw [sg_L_law_1112, if_pos rfl])
  · rw [sg_L_law_1092, w1, ck_t c1]
  · intro v D1 hD
    rw [sg_L_law_1102, w1, ck_t c1, hD]
theorem st_rename (hR : R D t) (ht : 0 ≤ t ∧ t < 1000000) (hI : ∀ j, i32 (D 100000 j)) (h0 : 0 ≤ i) (h6 : i + 6 ≤ (X.2.2.2 : Int)) (hL : X.2.2.2 ≤ 3072) : SS t D X i (cm_x 293 1117 [some (.inr (.inr 100000)), some (.inr (.inr 0)), some (.inr (.inr 613)), some (.inr (.inr 633)), some (.inl (i)), none, none, none] [] (cm_hp D X)) := by
  have w1 : cm_wr (i + 1) = i + 1 := cm_wr_id (by omega) (by omega)
  have c1 : 0 ≤ i + 1 ∧ i + 1 < (X.2.2.2 : Int) := by omega
  have w2 : cm_wr (i + 2) = i + 2 := cm_wr_id (by omega) (by omega)
  have c2 : 0 ≤ i + 2 ∧ i + 2 < (X.2.2.2 : Int) := by omega
  have w6 : cm_wr (i + 6) = i + 6 := cm_wr_id (by omega) (by omega)
  refine S_MM (p1 := 1130) (p2 := 1133) (p3 := 1146) (p4 := 1149) (q_rename hR X (D 100000 (i + 1)) (D 100000 (i + 2))) w6 (fun r D1 X1 h => x_row h) ?_ ?_ (fun a D => by rw [sg_L_law_1149, if_pos rfl])
  · rw [sg_L_law_1117, w1, w2, ck_t c1, ck_t c2]
  · intro v D1 hD
    rw [sg_L_law_1133, w1, w2, ck_t c1, ck_t c2, hD]
theorem st_copy (hR : R D t) (ht : 0 ≤ t ∧ t < 1000000) (hI : ∀ j, i32 (D 100000 j)) (h0 : 0 ≤ i) (h6 : i + 6 ≤ (X.2.2.2 : Int)) (hL : X.2.2.2 ≤ 3072) : SS t D X i (cm_x 293 1154 [some (.inr (.inr 100000)), some (.inr (.inr 0)), some (.inr (.inr 613)), some (.inr (.inr 633)), some (.inl (i)), none, none, none] [] (cm_hp D X)) := by
  have w1 : cm_wr (i + 1) = i + 1 := cm_wr_id (by omega) (by omega)
  have c1 : 0 ≤ i + 1 ∧ i + 1 < (X.2.2.2 : Int) := by omega
  have w2 : cm_wr (i + 2) = i + 2 := cm_wr_id (by omega) (by omega)
  have c2 : 0 ≤ i + 2 ∧ i + 2 < (X.2.2.2 : Int) := by omega
  have w6 : cm_wr (i + 6) = i + 6 := cm_wr_id (by omega) (by omega)
  refine S_MM (p1 := 1167) (p2 := 1170) (p3 := 1183) (p4 := 1186) (q_copy hR X (D 100000 (i + 1)) (D 100000 (i + 2))) w6 (fun r D1 X1 h => x_row h) ?_ ?_ (fun a D => by rw [sg_L_law_1186, if_pos rfl])
  · rw [sg_L_law_1154, w1, w2, ck_t c1, ck_t c2]
  · intro v D1 hD
    rw [sg_L_law_1170, w1, w2, ck_t c1, ck_t c2, hD]
theorem st_revert (hR : R D t) (ht : 0 ≤ t ∧ t < 1000000) (hI : ∀ j, i32 (D 100000 j)) (h0 : 0 ≤ i) (h6 : i + 6 ≤ (X.2.2.2 : Int)) (hL : X.2.2.2 ≤ 3072) : SS t D X i (cm_x 293 1191 [some (.inr (.inr 100000)), some (.inr (.inr 0)), some (.inr (.inr 613)), some (.inr (.inr 633)), some (.inl (i)), none, none, none] [] (cm_hp D X)) := by
  have w1 : cm_wr (i + 1) = i + 1 := cm_wr_id (by omega) (by omega)
  have c1 : 0 ≤ i + 1 ∧ i + 1 < (X.2.2.2 : Int) := by omega
  have w2 : cm_wr (i + 2) = i + 2 := cm_wr_id (by omega) (by omega)
  have c2 : 0 ≤ i + 2 ∧ i + 2 < (X.2.2.2 : Int) := by omega
  have w6 : cm_wr (i + 6) = i + 6 := cm_wr_id (by omega) (by omega)
  refine S_MM (p1 := 1204) (p2 := 1207) (p3 := 1220) (p4 := 1223) (q_revert hR X (D 100000 (i + 1)) (hI (i + 2))) w6 (fun r D1 X1 h => x_row h) ?_ ?_ (fun a D => by rw [sg_L_law_1223, if_pos rfl])
  · rw [sg_L_law_1191, w1, w2, ck_t c1, ck_t c2]
  · intro v D1 hD
    rw [sg_L_law_1207, w1, w2, ck_t c1, ck_t c2, hD]
theorem st_sync (hR : R D t) (ht : 0 ≤ t ∧ t < 1000000) (hI : ∀ j, i32 (D 100000 j)) (h0 : 0 ≤ i) (h6 : i + 6 ≤ (X.2.2.2 : Int)) (hL : X.2.2.2 ≤ 3072) : SS t D X i (cm_x 293 1228 [some (.inr (.inr 100000)), some (.inr (.inr 0)), some (.inr (.inr 613)), some (.inr (.inr 633)), some (.inl (i)), none, none, none] [] (cm_hp D X)) := by
  have w6 : cm_wr (i + 6) = i + 6 := cm_wr_id (by omega) (by omega)
  refine S_MM (p1 := 1229) (p2 := 1232) (p3 := 1233) (p4 := 1236) (q_sync hR X ) w6 (fun r D1 X1 h => x_row h) ?_ ?_ (fun a D => by rw [sg_L_law_1236, if_pos rfl])
  · rw [sg_L_law_1228]
  · intro v D1 hD
    rw [sg_L_law_1232]
theorem st_tear (hR : R D t) (ht : 0 ≤ t ∧ t < 1000000) (hI : ∀ j, i32 (D 100000 j)) (h0 : 0 ≤ i) (h6 : i + 6 ≤ (X.2.2.2 : Int)) (hL : X.2.2.2 ≤ 3072) : SS t D X i (cm_x 293 1241 [some (.inr (.inr 100000)), some (.inr (.inr 0)), some (.inr (.inr 613)), some (.inr (.inr 633)), some (.inl (i)), none, none, none] [] (cm_hp D X)) := by
  have w1 : cm_wr (i + 1) = i + 1 := cm_wr_id (by omega) (by omega)
  have c1 : 0 ≤ i + 1 ∧ i + 1 < (X.2.2.2 : Int) := by omega
  have w6 : cm_wr (i + 6) = i + 6 := cm_wr_id (by omega) (by omega)
  refine S_MM (p1 := 1248) (p2 := 1251) (p3 := 1258) (p4 := 1261) (q_tear hR X (x := (D 100000 (i + 1)))) w6 (fun r D1 X1 h => x_row h) ?_ ?_ (fun a D => by rw [sg_L_law_1261, if_pos rfl])
  · rw [sg_L_law_1241, w1, ck_t c1]
  · intro v D1 hD
    rw [sg_L_law_1251, w1, ck_t c1, hD]
theorem st_close (hR : R D t) (ht : 0 ≤ t ∧ t < 1000000) (hI : ∀ j, i32 (D 100000 j)) (h0 : 0 ≤ i) (h6 : i + 6 ≤ (X.2.2.2 : Int)) (hL : X.2.2.2 ≤ 3072) : SS t D X i (cm_x 293 1266 [some (.inr (.inr 100000)), some (.inr (.inr 0)), some (.inr (.inr 613)), some (.inr (.inr 633)), some (.inl (i)), none, none, none] [] (cm_hp D X)) := by
  have w1 : cm_wr (i + 1) = i + 1 := cm_wr_id (by omega) (by omega)
  have c1 : 0 ≤ i + 1 ∧ i + 1 < (X.2.2.2 : Int) := by omega
  have w6 : cm_wr (i + 6) = i + 6 := cm_wr_id (by omega) (by omega)
  by_cases hz : D 100000 (i + 1) = 0
  · refine S_MM (p1 := 1281) (p2 := 1284) (p3 := 1299) (p4 := 1302) (q_close hR X (a := 0)) w6 (fun r D1 X1 h => x_row h) ?_ ?_ (fun a D => by rw [sg_L_law_1302, if_pos rfl])
    · rw [sg_L_law_1266, w1, ck_t c1, if_pos hz]
    · intro v D1 hD
      rw [sg_L_law_1284, w1, ck_t c1, hD, if_pos hz]
  · refine S_MM (p1 := 1281) (p2 := 1284) (p3 := 1299) (p4 := 1302) (q_close hR X (a := 1)) w6 (fun r D1 X1 h => x_row h) ?_ ?_ (fun a D => by rw [sg_L_law_1302, if_pos rfl])
    · rw [sg_L_law_1266, w1, ck_t c1, if_neg hz]
    · intro v D1 hD
      rw [sg_L_law_1284, w1, ck_t c1, hD, if_neg hz]
theorem st_mount (hR : R D t) (ht : 0 ≤ t ∧ t < 1000000) (hI : ∀ j, i32 (D 100000 j)) (h0 : 0 ≤ i) (h6 : i + 6 ≤ (X.2.2.2 : Int)) (hL : X.2.2.2 ≤ 3072) : SS t D X i (cm_x 293 1307 [some (.inr (.inr 100000)), some (.inr (.inr 0)), some (.inr (.inr 613)), some (.inr (.inr 633)), some (.inl (i)), none, none, none] [] (cm_hp D X)) := by
  have w1 : cm_wr (i + 1) = i + 1 := cm_wr_id (by omega) (by omega)
  have c1 : 0 ≤ i + 1 ∧ i + 1 < (X.2.2.2 : Int) := by omega
  have w6 : cm_wr (i + 6) = i + 6 := cm_wr_id (by omega) (by omega)
  refine S_MM (p1 := 1314) (p2 := 1317) (p3 := 1324) (p4 := 1327) (q_mount hR X (hI (i + 1))) w6 (fun r D1 X1 h => x_row h) ?_ ?_ (fun a D => by rw [sg_L_law_1327, if_pos rfl])
  · rw [sg_L_law_1307, w1, ck_t c1]
  · intro v D1 hD
    rw [sg_L_law_1317, w1, ck_t c1, hD]
theorem st_undo (hR : R D t) (ht : 0 ≤ t ∧ t < 1000000) (hI : ∀ j, i32 (D 100000 j)) (h0 : 0 ≤ i) (h6 : i + 6 ≤ (X.2.2.2 : Int)) (hL : X.2.2.2 ≤ 3072) : SS t D X i (cm_x 293 1332 [some (.inr (.inr 100000)), some (.inr (.inr 0)), some (.inr (.inr 613)), some (.inr (.inr 633)), some (.inl (i)), none, none, none] [] (cm_hp D X)) := by
  have w6 : cm_wr (i + 6) = i + 6 := cm_wr_id (by omega) (by omega)
  refine S_MM (p1 := 1333) (p2 := 1336) (p3 := 1337) (p4 := 1340) (q_undo hR X ) w6 (fun r D1 X1 h => x_row h) ?_ ?_ (fun a D => by rw [sg_L_law_1340, if_pos rfl])
  · rw [sg_L_law_1332]
  · intro v D1 hD
    rw [sg_L_law_1336]
theorem st_cost (hR : R D t) (ht : 0 ≤ t ∧ t < 1000000) (hI : ∀ j, i32 (D 100000 j)) (h0 : 0 ≤ i) (h6 : i + 6 ≤ (X.2.2.2 : Int)) (hL : X.2.2.2 ≤ 3072) : SS t D X i (cm_x 293 1345 [some (.inr (.inr 100000)), some (.inr (.inr 0)), some (.inr (.inr 613)), some (.inr (.inr 633)), some (.inl (i)), none, none, none] [] (cm_hp D X)) := by
  have w1 : cm_wr (i + 1) = i + 1 := cm_wr_id (by omega) (by omega)
  have c1 : 0 ≤ i + 1 ∧ i + 1 < (X.2.2.2 : Int) := by omega
  have w6 : cm_wr (i + 6) = i + 6 := cm_wr_id (by omega) (by omega)
  refine S_QQ (y := 287) (a := 4) (b := 7) (c := 12) (p1 := 1353) (p2 := 1356) (p3 := 1365) (p4 := 1368) (p5 := 1371) (p6 := 1374) (ls := [some (.inr (.inr 0)), some (.inl (D 100000 (i + 1))), some (.inr (.inr 633)), none]) (q_cost hR X (D 100000 (i + 1))) w6 (fun r D1 X1 h => x_row h) rfl ?_ (fun D X s => sg_L_cost_7 D X _ s) (fun D X => sg_L_cost_12 D X _) ?_ (fun v w D X => sg_L_law_1368 D X i v w) (fun v w u D X => sg_L_law_1374 D X i v w u)
  · rw [sg_L_law_1345, w1, ck_t c1, sg_L_cost_0]
  · intro X1 v D1 hX hD
    rw [sg_L_law_1356, hX, w1, ck_t c1, hD]
theorem st_apart (hR : R D t) (ht : 0 ≤ t ∧ t < 1000000) (hI : ∀ j, i32 (D 100000 j)) (h0 : 0 ≤ i) (h6 : i + 6 ≤ (X.2.2.2 : Int)) (hL : X.2.2.2 ≤ 3072) : SS t D X i (cm_x 293 1401 [some (.inr (.inr 100000)), some (.inr (.inr 0)), some (.inr (.inr 613)), some (.inr (.inr 633)), some (.inl (i)), none, none, none] [] (cm_hp D X)) := by
  have w6 : cm_wr (i + 6) = i + 6 := cm_wr_id (by omega) (by omega)
  refine S_MM (p1 := 1402) (p2 := 1405) (p3 := 1406) (p4 := 1409) (q_apart hR X ) w6 (fun r D1 X1 h => x_row h) ?_ ?_ (fun a D => by rw [sg_L_law_1409, if_pos rfl])
  · rw [sg_L_law_1401]
  · intro v D1 hD
    rw [sg_L_law_1405]
theorem st_found (hR : R D t) (ht : 0 ≤ t ∧ t < 1000000) (hI : ∀ j, i32 (D 100000 j)) (h0 : 0 ≤ i) (h6 : i + 6 ≤ (X.2.2.2 : Int)) (hL : X.2.2.2 ≤ 3072) : SS t D X i (cm_x 293 1414 [some (.inr (.inr 100000)), some (.inr (.inr 0)), some (.inr (.inr 613)), some (.inr (.inr 633)), some (.inl (i)), none, none, none] [] (cm_hp D X)) := by
  have w1 : cm_wr (i + 1) = i + 1 := cm_wr_id (by omega) (by omega)
  have c1 : 0 ≤ i + 1 ∧ i + 1 < (X.2.2.2 : Int) := by omega
  have w6 : cm_wr (i + 6) = i + 6 := cm_wr_id (by omega) (by omega)
  refine S_QQ (y := 288) (a := 4) (b := 7) (c := 12) (p1 := 1422) (p2 := 1425) (p3 := 1434) (p4 := 1437) (p5 := 1440) (p6 := 1443) (ls := [some (.inr (.inr 0)), some (.inl (D 100000 (i + 1))), some (.inr (.inr 633)), none]) (q_found hR X (D 100000 (i + 1))) w6 (fun r D1 X1 h => x_row h) rfl ?_ (fun D X s => sg_L_found_7 D X _ s) (fun D X => sg_L_found_12 D X _) ?_ (fun v w D X => sg_L_law_1437 D X i v w) (fun v w u D X => sg_L_law_1443 D X i v w u)
  · rw [sg_L_law_1414, w1, ck_t c1, sg_L_found_0]
  · intro X1 v D1 hX hD
    rw [sg_L_law_1425, hX, w1, ck_t c1, hD]
theorem st_left (hR : R D t) (ht : 0 ≤ t ∧ t < 1000000) (hI : ∀ j, i32 (D 100000 j)) (h0 : 0 ≤ i) (h6 : i + 6 ≤ (X.2.2.2 : Int)) (hL : X.2.2.2 ≤ 3072) : SS t D X i (cm_x 293 1470 [some (.inr (.inr 100000)), some (.inr (.inr 0)), some (.inr (.inr 613)), some (.inr (.inr 633)), some (.inl (i)), none, none, none] [] (cm_hp D X)) := by
  have w6 : cm_wr (i + 6) = i + 6 := cm_wr_id (by omega) (by omega)
  refine S_MM (p1 := 1471) (p2 := 1474) (p3 := 1475) (p4 := 1478) (q_left hR X ) w6 (fun r D1 X1 h => x_row h) ?_ ?_ (fun a D => by rw [sg_L_law_1478, if_pos rfl])
  · rw [sg_L_law_1470]
  · intro v D1 hD
    rw [sg_L_law_1474]
theorem st_ends (hR : R D t) (ht : 0 ≤ t ∧ t < 1000000) (hI : ∀ j, i32 (D 100000 j)) (h0 : 0 ≤ i) (h6 : i + 6 ≤ (X.2.2.2 : Int)) (hL : X.2.2.2 ≤ 3072) : SS t D X i (cm_x 293 1483 [some (.inr (.inr 100000)), some (.inr (.inr 0)), some (.inr (.inr 613)), some (.inr (.inr 633)), some (.inl (i)), none, none, none] [] (cm_hp D X)) := by
  have w6 : cm_wr (i + 6) = i + 6 := cm_wr_id (by omega) (by omega)
  refine S_MM (p1 := 1484) (p2 := 1487) (p3 := 1488) (p4 := 1491) (q_ends hR X ) w6 (fun r D1 X1 h => x_row h) ?_ ?_ (fun a D => by rw [sg_L_law_1491, if_pos rfl])
  · rw [sg_L_law_1483]
  · intro v D1 hD
    rw [sg_L_law_1487]
theorem st_toPack (hR : R D t) (ht : 0 ≤ t ∧ t < 1000000) (hI : ∀ j, i32 (D 100000 j)) (h0 : 0 ≤ i) (h6 : i + 6 ≤ (X.2.2.2 : Int)) (hL : X.2.2.2 ≤ 3072) : SS t D X i (cm_x 293 1496 [some (.inr (.inr 100000)), some (.inr (.inr 0)), some (.inr (.inr 613)), some (.inr (.inr 633)), some (.inl (i)), none, none, none] [] (cm_hp D X)) := by
  have w1 : cm_wr (i + 1) = i + 1 := cm_wr_id (by omega) (by omega)
  have c1 : 0 ≤ i + 1 ∧ i + 1 < (X.2.2.2 : Int) := by omega
  have w6 : cm_wr (i + 6) = i + 6 := cm_wr_id (by omega) (by omega)
  refine S_QQ (y := 289) (a := 4) (b := 7) (c := 12) (p1 := 1504) (p2 := 1507) (p3 := 1516) (p4 := 1519) (p5 := 1522) (p6 := 1525) (ls := [some (.inr (.inr 0)), some (.inl (D 100000 (i + 1))), some (.inr (.inr 633)), none]) (q_toPack hR X (D 100000 (i + 1))) w6 (fun r D1 X1 h => x_row h) rfl ?_ (fun D X s => sg_L_toPack_7 D X _ s) (fun D X => sg_L_toPack_12 D X _) ?_ (fun v w D X => sg_L_law_1519 D X i v w) (fun v w u D X => sg_L_law_1525 D X i v w u)
  · rw [sg_L_law_1496, w1, ck_t c1, sg_L_toPack_0]
  · intro X1 v D1 hX hD
    rw [sg_L_law_1507, hX, w1, ck_t c1, hD]
theorem st_guess (hR : R D t) (ht : 0 ≤ t ∧ t < 1000000) (hI : ∀ j, i32 (D 100000 j)) (h0 : 0 ≤ i) (h6 : i + 6 ≤ (X.2.2.2 : Int)) (hL : X.2.2.2 ≤ 3072) : SS t D X i (cm_x 293 1552 [some (.inr (.inr 100000)), some (.inr (.inr 0)), some (.inr (.inr 613)), some (.inr (.inr 633)), some (.inl (i)), none, none, none] [] (cm_hp D X)) := by
  have w1 : cm_wr (i + 1) = i + 1 := cm_wr_id (by omega) (by omega)
  have c1 : 0 ≤ i + 1 ∧ i + 1 < (X.2.2.2 : Int) := by omega
  have w2 : cm_wr (i + 2) = i + 2 := cm_wr_id (by omega) (by omega)
  have c2 : 0 ≤ i + 2 ∧ i + 2 < (X.2.2.2 : Int) := by omega
  have w6 : cm_wr (i + 6) = i + 6 := cm_wr_id (by omega) (by omega)
  refine S_QQ (y := 290) (a := 5) (b := 8) (c := 13) (p1 := 1566) (p2 := 1569) (p3 := 1584) (p4 := 1587) (p5 := 1590) (p6 := 1593) (ls := [some (.inr (.inr 0)), some (.inl (D 100000 (i + 1))), some (.inl (D 100000 (i + 2))), some (.inr (.inr 633)), none]) (q_guess hR X (D 100000 (i + 1)) (D 100000 (i + 2))) w6 (fun r D1 X1 h => x_row h) rfl ?_ (fun D X s => sg_L_guess_8 D X _ _ s) (fun D X => sg_L_guess_13 D X _ _) ?_ (fun v w D X => sg_L_law_1587 D X i v w) (fun v w u D X => sg_L_law_1593 D X i v w u)
  · rw [sg_L_law_1552, w1, w2, ck_t c1, ck_t c2, sg_L_guess_0]
  · intro X1 v D1 hX hD
    rw [sg_L_law_1569, hX, w1, w2, ck_t c1, ck_t c2, hD]
theorem st_storms (hR : R D t) (ht : 0 ≤ t ∧ t < 1000000) (hI : ∀ j, i32 (D 100000 j)) (h0 : 0 ≤ i) (h6 : i + 6 ≤ (X.2.2.2 : Int)) (hL : X.2.2.2 ≤ 3072) : SS t D X i (cm_x 293 1620 [some (.inr (.inr 100000)), some (.inr (.inr 0)), some (.inr (.inr 613)), some (.inr (.inr 633)), some (.inl (i)), none, none, none] [] (cm_hp D X)) := by
  have w1 : cm_wr (i + 1) = i + 1 := cm_wr_id (by omega) (by omega)
  have c1 : 0 ≤ i + 1 ∧ i + 1 < (X.2.2.2 : Int) := by omega
  have w2 : cm_wr (i + 2) = i + 2 := cm_wr_id (by omega) (by omega)
  have c2 : 0 ≤ i + 2 ∧ i + 2 < (X.2.2.2 : Int) := by omega
  have w6 : cm_wr (i + 6) = i + 6 := cm_wr_id (by omega) (by omega)
  refine S_QL (y := 291) (a := 5) (b := 8) (c := 12) (p1 := 1634) (p2 := 1637) (p3 := 1652) (p4 := 1655) (p5 := 1658) (p6 := 1661) (ls := [some (.inr (.inr 0)), some (.inl (D 100000 (i + 1))), some (.inl (D 100000 (i + 2))), some (.inr (.inr 633)), none]) (q_storms hR X (D 100000 (i + 1)) (D 100000 (i + 2))) w6 (fun r D1 X1 h => x_row h) rfl ?_ (fun D X s => sg_L_storms_8 D X _ _ s) (fun D X => sg_L_storms_12 D X _ _) ?_ (fun v w D X => sg_L_law_1655 D X i v w) (fun v w u D X => sg_L_law_1661 D X i v w u)
  · rw [sg_L_law_1620, w1, w2, ck_t c1, ck_t c2, sg_L_storms_0]
  · intro X1 v D1 hX hD
    rw [sg_L_law_1637, hX, w1, w2, ck_t c1, ck_t c2, hD]
theorem st_years (hR : R D t) (ht : 0 ≤ t ∧ t < 1000000) (hI : ∀ j, i32 (D 100000 j)) (h0 : 0 ≤ i) (h6 : i + 6 ≤ (X.2.2.2 : Int)) (hL : X.2.2.2 ≤ 3072) : SS t D X i (cm_x 293 1687 [some (.inr (.inr 100000)), some (.inr (.inr 0)), some (.inr (.inr 613)), some (.inr (.inr 633)), some (.inl (i)), none, none, none] [] (cm_hp D X)) := by
  have w1 : cm_wr (i + 1) = i + 1 := cm_wr_id (by omega) (by omega)
  have c1 : 0 ≤ i + 1 ∧ i + 1 < (X.2.2.2 : Int) := by omega
  have w2 : cm_wr (i + 2) = i + 2 := cm_wr_id (by omega) (by omega)
  have c2 : 0 ≤ i + 2 ∧ i + 2 < (X.2.2.2 : Int) := by omega
  have w3 : cm_wr (i + 3) = i + 3 := cm_wr_id (by omega) (by omega)
  have c3 : 0 ≤ i + 3 ∧ i + 3 < (X.2.2.2 : Int) := by omega
  have w6 : cm_wr (i + 6) = i + 6 := cm_wr_id (by omega) (by omega)
  refine S_QY (y := 292) (a := 7) (b := 10) (c1 := 15) (c2 := 19) (p1 := 1707) (p2 := 1710) (p3 := 1731) (p4 := 1734) (p5 := 1737) (p6 := 1740) (ls := [some (.inr (.inr 0)), some (.inl (D 100000 (i + 1))), some (.inl (D 100000 (i + 2))), some (.inl (D 100000 (i + 3))), some (.inr (.inr 633)), none]) (q_years hR X (D 100000 (i + 1)) (D 100000 (i + 2)) (D 100000 (i + 3))) w6 (fun r D1 X1 h => x_row h) rfl rfl ?_ (fun D X s => sg_L_years_10 D X _ _ _ s) (fun D X => sg_L_years_15 D X _ _ _) (fun D X => sg_L_years_19 D X _ _ _) ?_ (fun v w D X => sg_L_law_1734 D X i v w) (fun v w u D X => sg_L_law_1740 D X i v w u)
  · rw [sg_L_law_1687, w1, w2, w3, ck_t c1, ck_t c2, ck_t c3, sg_L_years_0]
  · intro X1 v D1 hX hD
    rw [sg_L_law_1710, hX, w1, w2, w3, ck_t c1, ck_t c2, ck_t c3, hD]
theorem st_image (hR : R D t) (ht : 0 ≤ t ∧ t < 1000000) (hI : ∀ j, i32 (D 100000 j)) (h0 : 0 ≤ i) (h6 : i + 6 ≤ (X.2.2.2 : Int)) (hL : X.2.2.2 ≤ 3072) : SS t D X i (cm_x 293 1767 [some (.inr (.inr 100000)), some (.inr (.inr 0)), some (.inr (.inr 613)), some (.inr (.inr 633)), some (.inl (i)), none, none, none] [] (cm_hp D X)) := by
  have w6 : cm_wr (i + 6) = i + 6 := cm_wr_id (by omega) (by omega)
  exact S_VV (p1 := 1768) (p2 := 1771) (p3 := 1772) (p4 := 1775) (q_image hR X) w6 (sg_L_law_1767 D X i) (fun D1 => sg_L_law_1771 D1 X i) (fun D1 => sg_L_law_1775 D1 X i)
theorem st_restore (hR : R D t) (ht : 0 ≤ t ∧ t < 1000000) (hI : ∀ j, i32 (D 100000 j)) (h0 : 0 ≤ i) (h6 : i + 6 ≤ (X.2.2.2 : Int)) (hL : X.2.2.2 ≤ 3072) : SS t D X i (cm_x 293 1778 [some (.inr (.inr 100000)), some (.inr (.inr 0)), some (.inr (.inr 613)), some (.inr (.inr 633)), some (.inl (i)), none, none, none] [] (cm_hp D X)) := by
  have w6 : cm_wr (i + 6) = i + 6 := cm_wr_id (by omega) (by omega)
  refine S_MM (p1 := 1779) (p2 := 1782) (p3 := 1783) (p4 := 1786) (q_restore hR X ) w6 (fun r D1 X1 h => x_row h) ?_ ?_ (fun a D => by rw [sg_L_law_1786, if_pos rfl])
  · rw [sg_L_law_1778]
  · intro v D1 hD
    rw [sg_L_law_1782]
