/-! an act is kept: the model; both; the relation behind an act -/
variable {D E : Nat → Int → Int} {X : cm_X} {t h pk : Int} {K B K' B' : Int → Int} {S T : Nat → Int → Int} {r : Int → Int}
abbrev u26 (D : Nat → Int → Int) (g : Int → Int) : Nat → Int → Int := cm_ua D 626 g
theorem u26_self : u26 D (D 626) = D := by
  funext a j
  unfold u26
  rw [ua_at]
  by_cases ha : a = 626
  · rw [if_pos ha, ha]
  · rw [if_neg ha]
/-- the row of what was, behind an act -/
def kpP (P r : Int → Int) (cn j : Int) : Int := if cn < 40 then (if 246 * cn ≤ j then r (j - 246 * cn) else P j) else (if 9594 ≤ j then r (j - 9594) else P (j + 246))
theorem ev_mKp2 (c0 : 0 ≤ D 613 29) (c1 : D 613 29 < 40) : ∃ g, cm_x 238 56 [some (.inr (.inr 613)), some (.inl (0))] [] (cm_hp D X) = some (.inl none, cm_hp (cm_up (u26 D g) 613 29 (D 613 29 + 1)) X) ∧ ∀ j, 0 ≤ j → j < 246 * (D 613 29 + 1) → g j = (if 246 * D 613 29 ≤ j then D 617 (j - 246 * D 613 29) else D 626 j) := by
  obtain ⟨g, L, P1⟩ := lp_inv (X := fun x g => cm_x 238 56 [some (.inr (.inr 613)), some (.inl (x))] [] (cm_hp (u26 D g) X)) (P := fun x g => ∀ j, 0 ≤ j → j < 246 * D 613 29 + x → g j = (if 246 * D 613 29 ≤ j then D 617 (j - 246 * D 613 29) else D 626 j)) (lo := 0) (hi := 246) (fun x g x0 x1 hP => by
    have e : cm_wr (x + 1) = x + 1 := cm_wr_id (by omega) (by omega)
    have e1 : cm_wr (246 * D 613 29) = 246 * D 613 29 := cm_wr_id (by omega) (by omega)
    have e2 : cm_wr (246 * D 613 29 + x) = 246 * D 613 29 + x := cm_wr_id (by omega) (by omega)
    have q1 : u26 D g 613 = D 613 := rfl
    have q2 : u26 D g 617 = D 617 := rfl
    refine ⟨cm_u1 g (246 * D 613 29 + x) (D 617 x), ?_, fun j j0 j1 => ?_⟩
    · show cm_x 238 56 [some (.inr (.inr 613)), some (.inl (x))] [] (cm_hp (u26 D g) X) = cm_x 238 56 [some (.inr (.inr 613)), some (.inl (x + 1))] [] (cm_hp (u26 D (cm_u1 g (246 * D 613 29 + x) (D 617 x))) X)
      rw [sg_X9_keep_56, if_pos x1, ck_t (by omega), q1, q2, e1, e2, ck_t (by omega), up_ua, e]
    · rw [u1_at]
      by_cases hj : j = 246 * D 613 29 + x
      · rw [if_pos hj, if_pos (by omega)]
        congr 1
        omega
      · rw [if_neg hj]; exact hP j j0 (by omega)) (D 626) (by omega) (fun j j0 j1 => by rw [if_neg (by omega)])
  refine ⟨g, ?_, fun j j0 j1 => P1 j j0 (by omega)⟩
  have L : cm_x 238 56 [some (.inr (.inr 613)), some (.inl (0))] [] (cm_hp D X) = cm_x 238 56 [some (.inr (.inr 613)), some (.inl (246))] [] (cm_hp (u26 D g) X) := by
    have := L
    rw [u26_self] at this
    exact this
  have q1 : u26 D g 613 = D 613 := rfl
  rw [L, sg_X9_keep_56, if_neg (by omega), q1, cm_wr_id (by omega) (by omega)]
theorem ev_mKeep (c0 : 0 ≤ D 613 29) (c1 : D 613 29 ≤ 40) : ∃ g, cm_x 238 0 [some (.inr (.inr 613)), none] [] (cm_hp D X) = some (.inl none, cm_hp (cm_up (u26 D g) 613 29 (if D 613 29 < 40 then D 613 29 + 1 else 40)) X) ∧ ∀ j, 0 ≤ j → j < 246 * (if D 613 29 < 40 then D 613 29 + 1 else 40) → g j = kpP (D 626) (D 617) (D 613 29) j := by
  rw [sg_X9_keep_0]
  by_cases h : D 613 29 < 40
  · obtain ⟨g, g1, g2⟩ := ev_mKp2 (X := X) c0 h
    rw [if_neg (by omega), if_pos h]
    refine ⟨g, g1, fun j j0 j1 => ?_⟩
    unfold kpP
    rw [if_pos h]
    exact g2 j j0 j1
  · rw [if_pos (by omega), if_neg h]
    obtain ⟨g, L, P1, P2⟩ := lp_inv (X := fun x g => cm_x 238 13 [some (.inr (.inr 613)), some (.inl (x))] [] (cm_hp (u26 D g) X)) (P := fun x g => (∀ j, 0 ≤ j → j < x - 246 → g j = D 626 (j + 246)) ∧ ∀ j, x - 246 ≤ j → g j = D 626 j) (lo := 246) (hi := 9840) (fun x g x0 x1 hP => by
      have e : cm_wr (x + 1) = x + 1 := cm_wr_id (by omega) (by omega)
      have e1 : cm_wr (x - 246) = x - 246 := cm_wr_id (by omega) (by omega)
      have q1 : u26 D g 626 = g := ua_same
      refine ⟨cm_u1 g (x - 246) (g x), ?_, fun j j0 j1 => ?_, fun j j0 => ?_⟩
      · show cm_x 238 13 [some (.inr (.inr 613)), some (.inl (x))] [] (cm_hp (u26 D g) X) = cm_x 238 13 [some (.inr (.inr 613)), some (.inl (x + 1))] [] (cm_hp (u26 D (cm_u1 g (x - 246) (g x))) X)
        rw [sg_X9_keep_13, if_pos x1, ck_t (by omega), e1, ck_t (by omega), q1, up_ua, e]
      · rw [u1_at]
        by_cases hj : j = x - 246
        · rw [if_pos hj, hP.2 x (by omega)]
          congr 1
          omega
        · rw [if_neg hj]; exact hP.1 j j0 (by omega)
      · rw [u1_at, if_neg (by omega)]; exact hP.2 j (by omega)) (D 626) (by omega) ⟨fun j j0 j1 => by omega, fun _ _ => rfl⟩
    have L : cm_x 238 13 [some (.inr (.inr 613)), some (.inl (246))] [] (cm_hp D X) = cm_x 238 13 [some (.inr (.inr 613)), some (.inl (9840))] [] (cm_hp (u26 D g) X) := by
      have := L
      rw [u26_self] at this
      exact this
    have q1 : u26 D g 613 29 = 40 := by show D 613 29 = 40; omega
    have q3 : cm_wr ((40 : Int) - 1) = 39 := by decide
    rw [L, sg_X9_keep_13, if_neg (by omega), q1, q3]
    have z1 : (cm_up (u26 D g) 613 29 39) 613 29 = 39 := rfl
    obtain ⟨g2, k1, k2⟩ := ev_mKp2 (D := cm_up (u26 D g) 613 29 39) (X := X) (by rw [z1]; omega) (by rw [z1]; omega)
    rw [z1] at k1 k2
    refine ⟨g2, ?_, fun j j0 j1 => ?_⟩
    · rw [k1]
      have : cm_up (u26 (cm_up (u26 D g) 613 29 39) g2) 613 29 (39 + 1) = cm_up (u26 D g2) 613 29 40 := by
        funext a j
        unfold u26
        simp only [up_at, ua_at]
        by_cases a1 : a = 613 ∧ j = 29
        · rw [if_pos a1, if_pos a1]; rfl
        · simp only [if_neg a1]
          by_cases a2 : a = 626
          · simp only [if_pos a2]
          · simp only [if_neg a2]
      rw [this]
    · rw [k2 j j0 (by omega)]
      have q5 : (cm_up (u26 D g) 613 29 39) 626 = g := rfl
      have q6 : (cm_up (u26 D g) 613 29 39) 617 = D 617 := rfl
      rw [q5, q6]
      unfold kpP
      rw [if_neg h]
      by_cases hj : 9594 ≤ j
      · rw [if_pos (by omega), if_pos hj]
        congr 1
      · rw [if_neg (by omega), if_neg hj]
        exact P1 j j0 (by omega)
/-- the acts, one more of them -/
theorem aG_keep {nx cn : Int} {St St' : Int → Nat → Int → Int} {P P' : Int → Int} (ha : aG pk K B h nx cn St P) (hS : rS S r) (hw : wS pk K B S) (hh : S 0 9 = h) (h1 : agS (St' nx) S) (h2 : ∀ q, 0 ≤ q → q < 40 → q ≠ nx → agS (St' q) (St q)) (hp : ∀ j, 0 ≤ j → j < 246 * (if cn < 40 then cn + 1 else 40) → P' j = kpP P r cn j) : aG pk K B h (if nx + 1 < 40 then nx + 1 else 0) (if cn < 40 then cn + 1 else 40) St' P' := by
  obtain ⟨⟨a1, a2⟩, ⟨a3, a4⟩, a5, a9⟩ := ha
  have hbS : ∀ q, 0 ≤ q → q < 40 → bS (St' q) := fun q q0 q1 => by
    by_cases hq : q = nx
    · rw [hq]; exact bS_ag h1 (bS_n hw.1)
    · exact bS_ag (h2 q q0 q1 hq) (a9 q q0 q1)
  have hI : ∀ k, 0 ≤ k → k < (if cn < 40 then cn + 1 else 40) → (k = (if cn < 40 then cn + 1 else 40) - 1 ∧ aI (if nx + 1 < 40 then nx + 1 else 0) (if cn < 40 then cn + 1 else 40) k = nx) ∨ (∃ l, 0 ≤ l ∧ l < cn ∧ l = k + (if cn < 40 then 0 else 1) ∧ aI (if nx + 1 < 40 then nx + 1 else 0) (if cn < 40 then cn + 1 else 40) k = aI nx cn l ∧ aI nx cn l ≠ nx) := by
    intro k k0 k1
    by_cases hk : k = (if cn < 40 then cn + 1 else 40) - 1
    · refine Or.inl ⟨hk, ?_⟩
      unfold aI
      omega
    · refine Or.inr ⟨k + (if cn < 40 then 0 else 1), by omega, by omega, rfl, ?_, ?_⟩
      · unfold aI
        omega
      · unfold aI
        omega
  have hd : ∀ k, 0 ≤ k → k < (if cn < 40 then cn + 1 else 40) → (k = (if cn < 40 then cn + 1 else 40) - 1 → St' (aI (if nx + 1 < 40 then nx + 1 else 0) (if cn < 40 then cn + 1 else 40) k) 0 9 = h) ∧ (k ≠ (if cn < 40 then cn + 1 else 40) - 1 → ∃ l, 0 ≤ l ∧ l < cn ∧ l = k + (if cn < 40 then 0 else 1) ∧ St' (aI (if nx + 1 < 40 then nx + 1 else 0) (if cn < 40 then cn + 1 else 40) k) 0 9 = St (aI nx cn l) 0 9) := by
    intro k k0 k1
    rcases hI k k0 k1 with ⟨e1, e2⟩ | ⟨l, l0, l1, l2, l3, l4⟩
    · exact ⟨fun _ => by rw [e2, h1.2.2.2.2.2.2.1, hh], fun z => absurd e1 z⟩
    · have hb := aI_b nx cn l
      refine ⟨fun z => by omega, fun _ => ⟨l, l0, l1, l2, ?_⟩⟩
      rw [l3, (h2 _ hb.1 hb.2 l4).2.2.2.2.2.2.1]
  refine ⟨by omega, by omega, fun k k0 k1 => ⟨?_, ?_, fun l l0 l1 => ?_⟩, hbS⟩
  · rcases hI k k0 k1 with ⟨e1, e2⟩ | ⟨l, l0, l1, l2, l3, l4⟩
    · rw [e2]
      refine ⟨rS_cg (fun j j0 j1 => ?_) (nS_ag h1 hw.1) (rS_ag h1 hw.1 hS), wS_ag h1 hw⟩
      show P' (246 * k + j) = r j
      rw [hp _ (by omega) (by omega)]
      unfold kpP
      by_cases hc : cn < 40
      · rw [if_pos hc, if_pos (by omega)]
        congr 1
        omega
      · rw [if_neg hc, if_pos (by omega)]
        congr 1
        omega
    · have hb := aI_b nx cn l
      have hg := h2 _ hb.1 hb.2 l4
      obtain ⟨⟨b1, b2⟩, -, -⟩ := a5 l l0 l1
      rw [l3]
      refine ⟨rS_cg (fun j j0 j1 => ?_) (nS_ag hg b2.1) (rS_ag hg b2.1 b1), wS_ag hg b2⟩
      show P' (246 * k + j) = P (246 * l + j)
      rw [hp _ (by omega) (by omega)]
      unfold kpP
      by_cases hc : cn < 40
      · rw [if_pos hc, if_neg (by omega)]
        congr 1
        omega
      · rw [if_neg hc, if_neg (by omega)]
        congr 1
        omega
  · by_cases hk : k = (if cn < 40 then cn + 1 else 40) - 1
    · rw [(hd k k0 k1).1 hk]; exact Int.le_refl _
    · obtain ⟨l, l0, l1, -, l3⟩ := (hd k k0 k1).2 hk
      rw [l3]; exact (a5 l l0 l1).2.1
  · by_cases hk : k = (if cn < 40 then cn + 1 else 40) - 1
    · have : l = k := by omega
      rw [this]; exact Int.le_refl _
    · obtain ⟨m, m0, m1, m2, m3⟩ := (hd k k0 k1).2 hk
      rw [m3]
      by_cases hl : l = (if cn < 40 then cn + 1 else 40) - 1
      · rw [(hd l (by omega) l1).1 hl]; exact (a5 m m0 m1).2.1
      · obtain ⟨n, n0, n1, n2, n3⟩ := (hd l (by omega) l1).2 hl
        rw [n3]; exact (a5 m m0 m1).2.2 n (by omega) n1
/-- rows that no act touches -/
def oRow (a : Nat) : Prop := a ≤ 1 ∨ a = 14 ∨ a = 308 ∨ (311 ≤ a ∧ a ≤ 313) ∨ (315 ≤ a ∧ a ≤ 603) ∨ a = 616 ∨ a = 621 ∨ (628 ≤ a ∧ a ≤ 632) ∨ a = 100000
def oEq (D E : Nat → Int → Int) : Prop := (∀ a, oRow a → E a = D a) ∧ (E 9 0 = D 9 0 ∧ E 9 1 = D 9 1 ∧ E 9 10 = D 9 10) ∧ E 613 9 = D 613 9 ∧ E 613 18 = D 613 18 ∧ E 613 33 = D 613 33 ∧ E 613 34 = D 613 34
theorem iR_o (e : oEq D E) (hr : iR D) : iR E := by
  obtain ⟨r1, r2, r3⟩ := hr
  have ha : agS (stt E 315) (stt D 315) := agS_of fun j hj => e.1 _ (by unfold oRow; omega)
  unfold iR
  rw [e.1 308 (by unfold oRow; omega), e.1 311 (by unfold oRow; omega), e.1 312 (by unfold oRow; omega), e.1 313 (by unfold oRow; omega), e.1 630 (by unfold oRow; omega), e.1 631 (by unfold oRow; omega), e.1 315 (by unfold oRow; omega), e.1 628 (by unfold oRow; omega), e.1 629 (by unfold oRow; omega), e.1 632 (by unfold oRow; omega), e.1 322 (by unfold oRow; omega), e.2.1.1, e.2.1.2.1, e.2.2.2.2.1, e.2.2.2.2.2]
  refine ⟨r1, r2, fun hp => ?_⟩
  obtain ⟨q1, q2, q3, q4, q5, q6, q7⟩ := r3 hp
  exact ⟨q1, q2, q3, rS_ag ha q5.1 q4, wS_ag ha q5, aG_eq eqB_rf (rDk_ln q1) q2 (fun q q0 q1 => agS_of fun j hj => e.1 _ (by unfold oRow bdr; omega)) (fun _ _ _ => rfl) (Int.le_refl _) q6, q7⟩
theorem tR_o (e : oEq D E) (hr : tR D) : tR E := by
  unfold tR
  rw [e.1 0 (by unfold oRow; omega), e.1 1 (by unfold oRow; omega), e.1 621 (by unfold oRow; omega), e.1 616 (by unfold oRow; omega), e.2.2.1, e.2.2.2.1]
  exact hr
theorem lk_o (e : oEq D E) (hr : lkOk D t) : lkOk E t := by
  unfold lkOk
  rw [e.1 14 (by unfold oRow; omega), e.2.1.2.2]
  exact hr
/-- the relation behind an act -/
theorem act_R (hR : R D t) (hc : Rc E) (hk1 : agS (stt E (adr (D 26 1))) (stt D 15)) (hk2 : ∀ q, 0 ≤ q → q < 40 → q ≠ D 26 1 → agS (stt E (adr q)) (stt D (adr q))) (hn : E 26 1 = (if D 26 1 + 1 < 40 then D 26 1 + 1 else 0)) (hm : E 26 2 = (if D 26 2 < 40 then D 26 2 + 1 else 40)) (h29 : E 613 29 = E 26 2) (hp : ∀ j, 0 ≤ j → j < 246 * (if D 26 2 < 40 then D 26 2 + 1 else 40) → E 626 j = kpP (D 626) (D 617) (D 26 2) j) (eb : eqB (D 15 9) (D 619) (D 620) (E 619) (E 620)) (hh : D 15 9 ≤ E 15 9) (ho : oEq D E) : R E (t + 400) := by
  obtain ⟨r1, r2, r3, r4, r5⟩ := hR
  refine ⟨hc, ⟨?_, h29⟩, iR_o ho r3, tR_o ho r4, lk_mono (lk_o ho r5) (by omega)⟩
  have hg := aG_keep (St' := fun q => stt E (adr q)) (P' := E 626) r2.1 r1.2.2.2.2.1 r1.2.2.2.2.2 rfl hk1 hk2 hp
  rw [hn, hm, ho.2.1.2.1]
  exact aG_eq eb (rDk_ln r1.1.2.1) r1.1.2.2.1 (fun q _ _ => agS_rf) (fun _ _ _ => rfl) hh hg
