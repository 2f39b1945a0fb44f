/-! acts are kept, taken back, copied -/
variable {D : Nat → Int → Int} {X : cm_X}
theorem ev_takeFrom {a b : Nat} (ha : isT a) (hb' : isT b) (hap : a + 7 ≤ b ∨ b + 7 ≤ a) (hb : bS (stt D b)) : ∃ D', cm_x 62 0 [some (.inr (.inr a)), some (.inr (.inr b)), none] [] (cm_hp D X) = some (.inl none, cm_hp D' X) ∧ agS (stt D' a) (stt D b) ∧ ∀ x : Nat, x < a ∨ a + 7 ≤ x → D' x = D x := by
  rw [sg_tf_0 ha hb', ua_row (show b + 2 ≠ a + 1 by omega), ua_row (show a + 2 ≠ a + 1 by omega)]
  generalize hE : (cm_ua (cm_ua D (a + 1) (cm_cp (D (b + 1)) (D (a + 1)) 0 0 12)) (a + 2) (cm_cp (D (b + 2)) (D (a + 2)) 0 0 12)) = E
  have hEo : ∀ x : Nat, x ≠ a + 1 → x ≠ a + 2 → E x = D x := by
    intro x h1 h2
    rw [← hE, ua_row h2, ua_row h1]
  have hE1 : E (a + 1) = cm_cp (D (b + 1)) (D (a + 1)) 0 0 12 := by rw [← hE, ua_row (by omega), ua_same]
  have hE2 : E (a + 2) = cm_cp (D (b + 2)) (D (a + 2)) 0 0 12 := by rw [← hE, ua_same]
  obtain ⟨F, L, P1, P2⟩ := lp_inv (X := fun i F => cm_x 62 32 [some (.inr (.inr a)), some (.inr (.inr b)), some (.inl i)] [] (cm_hp F X)) (P := fun i F => (∀ x : Nat, x ≠ a + 3 → F x = E x) ∧ ∀ n, 0 ≤ n → n < i → F (a + 3) n = D (b + 3) n) (lo := 0) (hi := 12) (fun i F i0 i1 hP => by
    refine ⟨cm_up F (a + 3) i ((F (b + 3) i) % 2), ?_, ?_, ?_⟩
    · have e : cm_wr (i + 1) = i + 1 := cm_wr_id (by omega) (by omega)
      refine Eq.trans (sg_tf_32 ha hb' i0 i1) ?_
      rw [e]
    · intro x hx
      rw [up_row hx]
      exact hP.1 x hx
    · intro n n0 n1
      rw [up_same, u1_at]
      by_cases hn : n = i
      · rw [if_pos hn, hP.1 _ (by omega), hEo _ (by omega) (by omega), hn]
        have := hb.2 i i0 i1
        have : D (b + 3) i = 0 ∨ D (b + 3) i = 1 := this
        omega
      · rw [if_neg hn]
        exact hP.2 n n0 (by omega)) E (by omega) ⟨fun _ _ => rfl, fun n n0 n1 => by omega⟩
  have hFb : ∀ x : Nat, b ≤ x → x < b + 7 → F x = D x := fun x h1 h2 => by rw [P1 x (by omega), hEo x (by omega) (by omega)]
  have hFo : ∀ x : Nat, x < a ∨ a + 7 ≤ x → F x = D x := fun x h1 => by rw [P1 x (by omega), hEo x (by omega) (by omega)]
  have hc : F b 6 = 0 ∨ F b 6 = 1 := by rw [hFb b (by omega) (by omega)]; exact hb.1
  have hq := sg_tf_end (D := F) (X := X) ha hb' hap (x := 12) (by omega) hc
  refine ⟨_, L.trans hq, ⟨?_, ?_, ?_, ?_⟩, ?_⟩
  · intro n n0 n1
    show (cm_up _ a 10 _) (a + 1) n = D (b + 1) n ∧ (cm_up _ a 10 _) (a + 2) n = D (b + 2) n ∧ (cm_up _ a 10 _) (a + 3) n = D (b + 3) n
    refine ⟨?_, ?_, ?_⟩
    · simp only [up_row (show a + 1 ≠ a by omega), ua_row (show a + 1 ≠ a + 4 by omega), ua_row (show a + 1 ≠ a + 5 by omega), ua_row (show a + 1 ≠ a + 6 by omega)]
      rw [P1 _ (by omega), hE1, cp_at, if_pos (by omega)]
      congr 1
      omega
    · simp only [up_row (show a + 2 ≠ a by omega), ua_row (show a + 2 ≠ a + 4 by omega), ua_row (show a + 2 ≠ a + 5 by omega), ua_row (show a + 2 ≠ a + 6 by omega)]
      rw [P1 _ (by omega), hE2, cp_at, if_pos (by omega)]
      congr 1
      omega
    · simp only [up_row (show a + 3 ≠ a by omega), ua_row (show a + 3 ≠ a + 4 by omega), ua_row (show a + 3 ≠ a + 5 by omega), ua_row (show a + 3 ≠ a + 6 by omega)]
      exact P2 n n0 n1
  · intro k k0 k1
    show (cm_up _ a 10 _) (a + 4) k = D (b + 4) k ∧ (cm_up _ a 10 _) (a + 5) k = D (b + 5) k
    refine ⟨?_, ?_⟩
    · simp only [up_row (show a + 4 ≠ a by omega), ua_same, ua_row (show a + 4 ≠ a + 5 by omega), ua_row (show a + 4 ≠ a + 6 by omega)]
      rw [cp_at, if_pos (by omega), hFb _ (by omega) (by omega)]
      congr 1
      omega
    · simp only [up_row (show a + 5 ≠ a by omega), ua_same, ua_row (show a + 5 ≠ a + 6 by omega)]
      rw [cp_at, if_pos (by omega), hFb _ (by omega) (by omega)]
      congr 1
      omega
  · intro k k0 k1
    show (cm_up _ a 10 _) (a + 6) k = D (b + 6) k
    simp only [up_row (show a + 6 ≠ a by omega), ua_same]
    rw [cp_at, if_pos (by omega), hFb _ (by omega) (by omega)]
    congr 1
    omega
  · have e0 : F b = D b := hFb b (by omega) (by omega)
    show (cm_up _ a 10 _) a 6 = D b 6 ∧ (cm_up _ a 10 _) a 7 = D b 7 ∧ (cm_up _ a 10 _) a 8 = D b 8 ∧ (cm_up _ a 10 _) a 9 = D b 9 ∧ (cm_up _ a 10 _) a 10 = D b 10
    simp [up_same, u1_at, e0]
  · intro x hx
    simp only [up_row (show x ≠ a by omega), ua_row (show x ≠ a + 4 by omega), ua_row (show x ≠ a + 5 by omega), ua_row (show x ≠ a + 6 by omega)]
    exact hFo x hx
theorem adr_R {q : Int} (h0 : 0 ≤ q) (h1 : q < 40) : cm_R0 27 q = adr q := by
  show cm_rQ 28 q = _
  unfold cm_rQ adr
  rw [if_pos (by omega)]
theorem bdr_R {q : Int} (h0 : 0 ≤ q) (h1 : q < 40) : cm_R0 323 q = bdr q := by
  show cm_rQ 324 q = _
  unfold cm_rQ bdr
  rw [if_pos (by omega)]
theorem isT_a {q : Int} (h1 : q < 40) : isT (adr q) := isT_28 (by omega)
theorem isT_b {q : Int} (h1 : q < 40) : isT (bdr q) := isT_324 (by omega)
theorem cl_own {y pc l b : Nat} {ls : cm_L} {st : List cm_V} {h : cm_H} (hk : cm_rc h (106 - 100) (st.drop (2 - 1)) = true) : cm_cl cm_x y pc l 106 b 2 ls st h = cm_own cm_x y pc l b 2 ls st h := by
  unfold cm_cl
  have e1 : ((106 : Nat) == 0) = false := rfl
  have e2 : (106 : Nat).blt 100 = false := rfl
  simp only [e1, e2, hk]
set_option maxRecDepth 100000 in
theorem sg_kp_0 : cm_x 2 0 [some (.inr (.inr 26)), some (.inr (.inr 15))] [] (cm_hp D X) = cm_x 2 8 [some (.inr (.inr 26)), some (.inr (.inr 15))] [.inl (D 26 1), .inr (.inr 27)] (cm_hp D X) := (cm_un_eq [8] 2 6 0 _ _ _).symm.trans rfl
set_option maxRecDepth 100000 in
theorem sg_kp_8 (q : Int) : cm_x 2 8 [some (.inr (.inr 26)), some (.inr (.inr 15))] [.inl q, .inr (.inr 27)] (cm_hp D X) = cm_ck (0 ≤ q ∧ q < 40) (cm_ck (cm_R0 27 q < 300000) (cm_x 2 9 [some (.inr (.inr 26)), some (.inr (.inr 15))] [.inr (.inr (cm_R0 27 q))] (cm_hp D X))) := (cm_x_eq _ _ _ _ _).trans rfl
set_option maxRecDepth 100000 in
theorem sg_kp_9 (a : Nat) (h : cm_H) : cm_x 2 9 [some (.inr (.inr 26)), some (.inr (.inr 15))] [.inr (.inr a)] h = cm_cl cm_x 2 10 3 106 62 2 [some (.inr (.inr 26)), some (.inr (.inr 15))] [.inr (.inr 15), .inr (.inr a)] h := (cm_x_eq _ _ _ _ _).trans (cm_x_eq _ _ _ _ _)
set_option maxRecDepth 100000 in
theorem sg_kp_10 (a : Nat) (h : cm_H) : cm_own cm_x 2 10 3 62 2 [some (.inr (.inr 26)), some (.inr (.inr 15))] [.inr (.inr 15), .inr (.inr a)] h = cm_aft 2 10 13 [some (.inr (.inr 26)), some (.inr (.inr 15))] [] (cm_x 62 0 [some (.inr (.inr a)), some (.inr (.inr 15)), none] [] h) := rfl
set_option maxRecDepth 100000 in
theorem sg_kp_13 : cm_x 2 13 [some (.inr (.inr 26)), some (.inr (.inr 15))] [] (cm_hp D X) = (if cm_wr (D 26 1 + 1) < 40 then some (.inl none, cm_hp (cm_up (cm_up D 26 1 (cm_wr (D 26 1 + 1))) 26 2 (cm_mn (cm_wr (D 26 2 + 1)) 40)) X) else some (.inl none, cm_hp (cm_up (cm_up D 26 1 0) 26 2 (cm_mn (cm_wr (D 26 2 + 1)) 40)) X)) := (cm_un_eq [] 2 24 13 _ _ _).symm.trans rfl
set_option maxRecDepth 100000 in
theorem sg_bk_0 : cm_x 3 0 [some (.inr (.inr 26)), some (.inr (.inr 15))] [] (cm_hp D X) = (if 0 < D 26 1 then cm_x 3 31 [some (.inr (.inr 26)), some (.inr (.inr 15))] [.inl (cm_wr (D 26 1 - 1)), .inr (.inr 27), .inr (.inr 15)] (cm_hp (cm_up D 26 1 (cm_wr (D 26 1 - 1))) X) else cm_x 3 31 [some (.inr (.inr 26)), some (.inr (.inr 15))] [.inl 39, .inr (.inr 27), .inr (.inr 15)] (cm_hp (cm_up D 26 1 39) X)) := (cm_un_eq [31] 3 20 0 _ _ _).symm.trans rfl
set_option maxRecDepth 100000 in
theorem sg_bk_31 (q : Int) : cm_x 3 31 [some (.inr (.inr 26)), some (.inr (.inr 15))] [.inl q, .inr (.inr 27), .inr (.inr 15)] (cm_hp D X) = cm_ck (0 ≤ q ∧ q < 40) (cm_ck (cm_R0 27 q < 300000) (cm_x 3 32 [some (.inr (.inr 26)), some (.inr (.inr 15))] [.inr (.inr (cm_R0 27 q)), .inr (.inr 15)] (cm_hp D X))) := (cm_x_eq _ _ _ _ _).trans rfl
set_option maxRecDepth 100000 in
theorem sg_bk_32 (a : Nat) : cm_x 3 32 [some (.inr (.inr 26)), some (.inr (.inr 15))] [.inr (.inr a), .inr (.inr 15)] (cm_hp D X) = cm_aft 3 32 35 [some (.inr (.inr 26)), some (.inr (.inr 15))] [] (cm_x 62 0 [some (.inr (.inr 15)), some (.inr (.inr a)), none] [] (cm_hp D X)) := (cm_x_eq _ _ _ _ _).trans rfl
set_option maxRecDepth 100000 in
theorem sg_bk_35 : cm_x 3 35 [some (.inr (.inr 26)), some (.inr (.inr 15))] [] (cm_hp D X) = some (.inl none, cm_hp (cm_up D 26 2 (cm_wr (D 26 2 - 1))) X) := (cm_un_eq [] 3 9 35 _ _ _).symm.trans rfl
set_option maxRecDepth 100000 in
theorem sg_atr_0 : cm_x 4 0 [some (.inr (.inr 26)), some (.inr (.inr 322)), none] [] (cm_hp D X) = cm_x 4 2 [some (.inr (.inr 26)), some (.inr (.inr 322)), some (.inl 0)] [] (cm_hp D X) := (cm_un_eq [2] 4 4 0 _ _ _).symm.trans rfl
set_option maxRecDepth 100000 in
theorem sg_atr_2 (x : Int) : cm_x 4 2 [some (.inr (.inr 26)), some (.inr (.inr 322)), some (.inl x)] [] (cm_hp D X) = (if x < 40 then cm_x 4 13 [some (.inr (.inr 26)), some (.inr (.inr 322)), some (.inl x)] [.inl x, .inr (.inr 27)] (cm_hp D X) else some (.inl none, cm_hp (cm_up (cm_up D 26 1 (D 322 1)) 26 2 (D 322 2)) X)) := (cm_un_eq [13] 4 16 2 _ _ _).symm.trans rfl
set_option maxRecDepth 100000 in
theorem sg_atr_13 (x : Int) : cm_x 4 13 [some (.inr (.inr 26)), some (.inr (.inr 322)), some (.inl x)] [.inl x, .inr (.inr 27)] (cm_hp D X) = cm_ck (0 ≤ x ∧ x < 40) (cm_ck (cm_R0 27 x < 300000) (cm_x 4 14 [some (.inr (.inr 26)), some (.inr (.inr 322)), some (.inl x)] [.inr (.inr (cm_R0 27 x))] (cm_hp D X))) := (cm_x_eq _ _ _ _ _).trans rfl
set_option maxRecDepth 100000 in
theorem sg_atr_14 (x : Int) (a : Nat) : cm_x 4 14 [some (.inr (.inr 26)), some (.inr (.inr 322)), some (.inl x)] [.inr (.inr a)] (cm_hp D X) = cm_x 4 19 [some (.inr (.inr 26)), some (.inr (.inr 322)), some (.inl x)] [.inl x, .inr (.inr 323), .inr (.inr a)] (cm_hp D X) := (cm_un_eq [19] 4 5 14 _ _ _).symm.trans rfl
set_option maxRecDepth 100000 in
theorem sg_atr_19 (x : Int) (a : Nat) : cm_x 4 19 [some (.inr (.inr 26)), some (.inr (.inr 322)), some (.inl x)] [.inl x, .inr (.inr 323), .inr (.inr a)] (cm_hp D X) = cm_ck (0 ≤ x ∧ x < 40) (cm_ck (cm_R0 323 x < 300000) (cm_x 4 20 [some (.inr (.inr 26)), some (.inr (.inr 322)), some (.inl x)] [.inr (.inr (cm_R0 323 x)), .inr (.inr a)] (cm_hp D X))) := (cm_x_eq _ _ _ _ _).trans rfl
set_option maxRecDepth 100000 in
theorem sg_atr_20 (x : Int) (a b : Nat) (h : cm_H) : cm_x 4 20 [some (.inr (.inr 26)), some (.inr (.inr 322)), some (.inl x)] [.inr (.inr b), .inr (.inr a)] h = cm_cl cm_x 4 20 3 106 62 2 [some (.inr (.inr 26)), some (.inr (.inr 322)), some (.inl x)] [.inr (.inr b), .inr (.inr a)] h := (cm_x_eq _ _ _ _ _).trans rfl
set_option maxRecDepth 100000 in
theorem sg_atr_20b (x : Int) (a b : Nat) (h : cm_H) : cm_own cm_x 4 20 3 62 2 [some (.inr (.inr 26)), some (.inr (.inr 322)), some (.inl x)] [.inr (.inr b), .inr (.inr a)] h = cm_aft 4 20 23 [some (.inr (.inr 26)), some (.inr (.inr 322)), some (.inl x)] [] (cm_x 62 0 [some (.inr (.inr a)), some (.inr (.inr b)), none] [] h) := rfl
set_option maxRecDepth 100000 in
theorem sg_atr_23 (x : Int) : cm_x 4 23 [some (.inr (.inr 26)), some (.inr (.inr 322)), some (.inl x)] [] (cm_hp D X) = cm_x 4 2 [some (.inr (.inr 26)), some (.inr (.inr 322)), some (.inl (cm_wr (x + 1)))] [] (cm_hp D X) := (cm_un_eq [2] 4 4 23 _ _ _).symm.trans rfl
set_option maxRecDepth 100000 in
theorem sg_ati_0 : cm_x 4 0 [some (.inr (.inr 322)), some (.inr (.inr 26)), none] [] (cm_hp D X) = cm_x 4 2 [some (.inr (.inr 322)), some (.inr (.inr 26)), some (.inl 0)] [] (cm_hp D X) := (cm_un_eq [2] 4 4 0 _ _ _).symm.trans rfl
set_option maxRecDepth 100000 in
theorem sg_ati_2 (x : Int) : cm_x 4 2 [some (.inr (.inr 322)), some (.inr (.inr 26)), some (.inl x)] [] (cm_hp D X) = (if x < 40 then cm_x 4 13 [some (.inr (.inr 322)), some (.inr (.inr 26)), some (.inl x)] [.inl x, .inr (.inr 323)] (cm_hp D X) else some (.inl none, cm_hp (cm_up (cm_up D 322 1 (D 26 1)) 322 2 (D 26 2)) X)) := (cm_un_eq [13] 4 16 2 _ _ _).symm.trans rfl
set_option maxRecDepth 100000 in
theorem sg_ati_13 (x : Int) : cm_x 4 13 [some (.inr (.inr 322)), some (.inr (.inr 26)), some (.inl x)] [.inl x, .inr (.inr 323)] (cm_hp D X) = cm_ck (0 ≤ x ∧ x < 40) (cm_ck (cm_R0 323 x < 300000) (cm_x 4 14 [some (.inr (.inr 322)), some (.inr (.inr 26)), some (.inl x)] [.inr (.inr (cm_R0 323 x))] (cm_hp D X))) := (cm_x_eq _ _ _ _ _).trans rfl
set_option maxRecDepth 100000 in
theorem sg_ati_14 (x : Int) (a : Nat) : cm_x 4 14 [some (.inr (.inr 322)), some (.inr (.inr 26)), some (.inl x)] [.inr (.inr a)] (cm_hp D X) = cm_x 4 19 [some (.inr (.inr 322)), some (.inr (.inr 26)), some (.inl x)] [.inl x, .inr (.inr 27), .inr (.inr a)] (cm_hp D X) := (cm_un_eq [19] 4 5 14 _ _ _).symm.trans rfl
set_option maxRecDepth 100000 in
theorem sg_ati_19 (x : Int) (a : Nat) : cm_x 4 19 [some (.inr (.inr 322)), some (.inr (.inr 26)), some (.inl x)] [.inl x, .inr (.inr 27), .inr (.inr a)] (cm_hp D X) = cm_ck (0 ≤ x ∧ x < 40) (cm_ck (cm_R0 27 x < 300000) (cm_x 4 20 [some (.inr (.inr 322)), some (.inr (.inr 26)), some (.inl x)] [.inr (.inr (cm_R0 27 x)), .inr (.inr a)] (cm_hp D X))) := (cm_x_eq _ _ _ _ _).trans rfl
set_option maxRecDepth 100000 in
theorem sg_ati_20 (x : Int) (a b : Nat) (h : cm_H) : cm_x 4 20 [some (.inr (.inr 322)), some (.inr (.inr 26)), some (.inl x)] [.inr (.inr b), .inr (.inr a)] h = cm_cl cm_x 4 20 3 106 62 2 [some (.inr (.inr 322)), some (.inr (.inr 26)), some (.inl x)] [.inr (.inr b), .inr (.inr a)] h := (cm_x_eq _ _ _ _ _).trans rfl
set_option maxRecDepth 100000 in
theorem sg_ati_20b (x : Int) (a b : Nat) (h : cm_H) : cm_own cm_x 4 20 3 62 2 [some (.inr (.inr 322)), some (.inr (.inr 26)), some (.inl x)] [.inr (.inr b), .inr (.inr a)] h = cm_aft 4 20 23 [some (.inr (.inr 322)), some (.inr (.inr 26)), some (.inl x)] [] (cm_x 62 0 [some (.inr (.inr a)), some (.inr (.inr b)), none] [] h) := rfl
set_option maxRecDepth 100000 in
theorem sg_ati_23 (x : Int) : cm_x 4 23 [some (.inr (.inr 322)), some (.inr (.inr 26)), some (.inl x)] [] (cm_hp D X) = cm_x 4 2 [some (.inr (.inr 322)), some (.inr (.inr 26)), some (.inl (cm_wr (x + 1)))] [] (cm_hp D X) := (cm_un_eq [2] 4 4 23 _ _ _).symm.trans rfl
theorem ev_keep (n0 : 0 ≤ D 26 1) (n1 : D 26 1 < 40) (c0 : 0 ≤ D 26 2) (c1 : D 26 2 ≤ 40) (hb : bS (stt D 15)) : ∃ D', cm_x 2 0 [some (.inr (.inr 26)), some (.inr (.inr 15))] [] (cm_hp D X) = some (.inl none, cm_hp D' X) ∧ agS (stt D' (adr (D 26 1))) (stt D 15) ∧ D' 26 1 = (if D 26 1 + 1 < 40 then D 26 1 + 1 else 0) ∧ D' 26 2 = (if D 26 2 < 40 then D 26 2 + 1 else 40) ∧ ∀ x : Nat, x ≠ 26 → (x < adr (D 26 1) ∨ adr (D 26 1) + 7 ≤ x) → D' x = D x := by
  have ha := isT_a n1
  have hq : 28 ≤ adr (D 26 1) ∧ adr (D 26 1) + 7 ≤ 308 := by unfold adr; omega
  obtain ⟨F, f1, f2, f3⟩ := ev_takeFrom (X := X) ha isT_15 (by omega) hb
  have e26 : F 26 = D 26 := f3 26 (by omega)
  have w1 : cm_wr (D 26 1 + 1) = D 26 1 + 1 := cm_wr_id (by omega) (by omega)
  have w2 : cm_mn (cm_wr (D 26 2 + 1)) 40 = (if D 26 2 < 40 then D 26 2 + 1 else 40) := by
    rw [cm_wr_id (by omega) (by omega)]
    unfold cm_mn
    by_cases h : D 26 2 < 40
    · rw [if_pos h, if_neg (by omega)]
    · rw [if_neg h, if_pos (by omega)]
  have run : cm_x 2 0 [some (.inr (.inr 26)), some (.inr (.inr 15))] [] (cm_hp D X) = cm_x 2 13 [some (.inr (.inr 26)), some (.inr (.inr 15))] [] (cm_hp F X) := by
    rw [sg_kp_0, sg_kp_8, ck_t (by omega), adr_R n0 n1, ck_t (by omega), sg_kp_9, cl_own (st := [.inr (.inr 15), .inr (.inr (adr (D 26 1)))]) (h := cm_hp D X) (kd_T ha), sg_kp_10, f1, aft_n]
  rw [run, sg_kp_13, e26, w1, w2]
  have hag : ∀ v, agS (stt (cm_up (cm_up F 26 1 v) 26 2 (if D 26 2 < 40 then D 26 2 + 1 else 40)) (adr (D 26 1))) (stt D 15) := fun v => agS_tr (agS_of fun j hj => by
    show cm_up (cm_up F 26 1 v) 26 2 _ (adr (D 26 1) + j) = F (adr (D 26 1) + j)
    rw [up_row (by omega), up_row (by omega)]) f2
  have hfr : ∀ v, ∀ x : Nat, x ≠ 26 → (x < adr (D 26 1) ∨ adr (D 26 1) + 7 ≤ x) → cm_up (cm_up F 26 1 v) 26 2 (if D 26 2 < 40 then D 26 2 + 1 else 40) x = D x := fun v x hx hy => by
    rw [up_row hx, up_row hx]; exact f3 x hy
  by_cases h : D 26 1 + 1 < 40
  · rw [if_pos h]
    exact ⟨_, rfl, hag _, (if_pos h).symm, rfl, hfr _⟩
  · rw [if_neg h]
    exact ⟨_, rfl, hag _, (if_neg h).symm, rfl, hfr _⟩
/-- the place of the last act -/
def pvA (q : Int) : Int := if 0 < q then q - 1 else 39
theorem ev_back (n0 : 0 ≤ D 26 1) (n1 : D 26 1 < 40) (c0 : 1 ≤ D 26 2) (c1 : D 26 2 ≤ 40) (hb : bS (stt D (adr (pvA (D 26 1))))) : ∃ D', cm_x 3 0 [some (.inr (.inr 26)), some (.inr (.inr 15))] [] (cm_hp D X) = some (.inl none, cm_hp D' X) ∧ agS (stt D' 15) (stt D (adr (pvA (D 26 1)))) ∧ D' 26 1 = pvA (D 26 1) ∧ D' 26 2 = D 26 2 - 1 ∧ ∀ x : Nat, x ≠ 26 → (x < 15 ∨ 22 ≤ x) → D' x = D x := by
  have hp : 0 ≤ pvA (D 26 1) ∧ pvA (D 26 1) < 40 := by unfold pvA; omega
  have ha := isT_a hp.2
  have hq : 28 ≤ adr (pvA (D 26 1)) ∧ adr (pvA (D 26 1)) + 7 ≤ 308 := by unfold adr; omega
  have hag0 : agS (stt (cm_up D 26 1 (pvA (D 26 1))) (adr (pvA (D 26 1)))) (stt D (adr (pvA (D 26 1)))) := agS_of fun j hj => by
    show cm_up D 26 1 _ (adr _ + j) = D (adr _ + j)
    rw [up_row (by omega)]
  have hb2 : bS (stt (cm_up D 26 1 (pvA (D 26 1))) (adr (pvA (D 26 1)))) := by
    refine ⟨by rw [hag0.2.2.2.1]; exact hb.1, fun n a b => by rw [(hag0.1 n a b).2.2]; exact hb.2 n a b⟩
  obtain ⟨F, f1, f2, f3⟩ := ev_takeFrom (X := X) isT_15 ha (by omega) hb2
  have e26 : F 26 = cm_up D 26 1 (pvA (D 26 1)) 26 := f3 26 (by omega)
  have e262 : F 26 2 = D 26 2 := by rw [e26]; rfl
  have w2 : cm_wr (D 26 2 - 1) = D 26 2 - 1 := cm_wr_id (by omega) (by omega)
  have run : cm_x 3 0 [some (.inr (.inr 26)), some (.inr (.inr 15))] [] (cm_hp D X) = cm_x 3 31 [some (.inr (.inr 26)), some (.inr (.inr 15))] [.inl (pvA (D 26 1)), .inr (.inr 27), .inr (.inr 15)] (cm_hp (cm_up D 26 1 (pvA (D 26 1))) X) := by
    rw [sg_bk_0]
    unfold pvA
    by_cases h : 0 < D 26 1
    · rw [if_pos h, if_pos h, cm_wr_id (by omega) (by omega)]
    · rw [if_neg h, if_neg h]
  rw [run, sg_bk_31, ck_t (by omega), adr_R hp.1 hp.2, ck_t (by omega), sg_bk_32, f1, aft_n, sg_bk_35, e262, w2]
  refine ⟨_, rfl, agS_tr (agS_of fun j hj => ?_) (agS_tr f2 hag0), ?_, ?_, fun x hx hy => ?_⟩
  · show cm_up F 26 2 _ (15 + j) = F (15 + j)
    rw [up_row (by omega)]
  · show F 26 1 = _
    rw [e26]
    rfl
  · rfl
  · rw [up_row hx, f3 x (by omega), up_row hx]
theorem ev_atr (hb : ∀ q, 0 ≤ q → q < 40 → bS (stt D (bdr q))) : ∃ D', cm_x 4 0 [some (.inr (.inr 26)), some (.inr (.inr 322)), none] [] (cm_hp D X) = some (.inl none, cm_hp D' X) ∧ (∀ q, 0 ≤ q → q < 40 → agS (stt D' (adr q)) (stt D (bdr q))) ∧ D' 26 1 = D 322 1 ∧ D' 26 2 = D 322 2 ∧ ∀ x : Nat, x ≠ 26 → (x < 28 ∨ 308 ≤ x) → D' x = D x := by
  rw [sg_atr_0]
  obtain ⟨F, l1, l2, l3⟩ := lp_inv (X := fun q F => cm_x 4 2 [some (.inr (.inr 26)), some (.inr (.inr 322)), some (.inl q)] [] (cm_hp F X)) (P := fun q F => (∀ p, 0 ≤ p → p < q → agS (stt F (adr p)) (stt D (bdr p))) ∧ ∀ x : Nat, (x < 28 ∨ 308 ≤ x) → F x = D x) (lo := 0) (hi := 40) (fun q F q0 q1 hP => by
    have ha : isT (adr q) := isT_a q1
    have hB : isT (bdr q) := isT_b q1
    have hra : 28 ≤ adr q ∧ adr q + 7 ≤ 308 := by unfold adr; omega
    have hrb : bdr q + 7 ≤ 28 ∨ 308 ≤ bdr q := by unfold bdr; omega
    have hag : agS (stt F (bdr q)) (stt D (bdr q)) := agS_of fun j hj => hP.2 _ (by omega)
    have hb2 : bS (stt F (bdr q)) := ⟨by rw [hag.2.2.2.1]; exact (hb q q0 q1).1, fun n a b => by rw [(hag.1 n a b).2.2]; exact (hb q q0 q1).2 n a b⟩
    obtain ⟨G, g1, g2, g3⟩ := ev_takeFrom (X := X) ha hB (by omega) hb2
    have e : cm_wr (q + 1) = q + 1 := cm_wr_id (by omega) (by omega)
    have h1 : adr q < 300000 := by omega
    have h2 : bdr q < 300000 := by unfold bdr; omega
    refine ⟨G, ?_, fun p p0 p1 => ?_, fun x hx => ?_⟩
    · show cm_x 4 2 [some (.inr (.inr 26)), some (.inr (.inr 322)), some (.inl q)] [] (cm_hp F X) = cm_x 4 2 [some (.inr (.inr 26)), some (.inr (.inr 322)), some (.inl (q + 1))] [] (cm_hp G X)
      rw [sg_atr_2, if_pos q1, sg_atr_13, ck_t ⟨q0, q1⟩, adr_R q0 q1, ck_t h1, sg_atr_14, sg_atr_19, ck_t ⟨q0, q1⟩, bdr_R q0 q1, ck_t h2, sg_atr_20, cl_own (st := [.inr (.inr (bdr q)), .inr (.inr (adr q))]) (h := cm_hp F X) (kd_T ha), sg_atr_20b, g1, aft_n, sg_atr_23, e]
    · by_cases hpq : p = q
      · rw [hpq]; exact agS_tr g2 hag
      · refine agS_tr (agS_of fun j hj => g3 _ ?_) (hP.1 p p0 (by omega))
        unfold adr
        omega
    · rw [g3 x (by omega)]; exact hP.2 x hx) D (by omega) ⟨fun p p0 p1 => by omega, fun _ _ => rfl⟩
  have l1 : cm_x 4 2 [some (.inr (.inr 26)), some (.inr (.inr 322)), some (.inl 0)] [] (cm_hp D X) = cm_x 4 2 [some (.inr (.inr 26)), some (.inr (.inr 322)), some (.inl 40)] [] (cm_hp F X) := l1
  rw [l1, sg_atr_2, if_neg (by omega)]
  have eT : F 322 = D 322 := l3 _ (by omega)
  refine ⟨_, rfl, fun q q0 q1 => agS_tr (agS_of fun j hj => ?_) (l2 q q0 q1), ?_, ?_, fun x hx hy => ?_⟩
  · have hra : 28 ≤ adr q := by unfold adr; omega
    have hrb : adr q + 7 ≤ 308 := by unfold adr; omega
    show cm_up (cm_up F 26 1 _) 26 2 _ (adr q + j) = F (adr q + j)
    rw [up_row (by omega), up_row (by omega)]
  · show F 322 1 = _
    rw [eT]
  · show F 322 2 = _
    rw [eT]
  · rw [up_row hx, up_row hx]; exact l3 x hy
theorem ev_ati (hb : ∀ q, 0 ≤ q → q < 40 → bS (stt D (adr q))) : ∃ D', cm_x 4 0 [some (.inr (.inr 322)), some (.inr (.inr 26)), none] [] (cm_hp D X) = some (.inl none, cm_hp D' X) ∧ (∀ q, 0 ≤ q → q < 40 → agS (stt D' (bdr q)) (stt D (adr q))) ∧ D' 322 1 = D 26 1 ∧ D' 322 2 = D 26 2 ∧ ∀ x : Nat, x ≠ 322 → (x < 324 ∨ 604 ≤ x) → D' x = D x := by
  rw [sg_ati_0]
  obtain ⟨F, l1, l2, l3⟩ := lp_inv (X := fun q F => cm_x 4 2 [some (.inr (.inr 322)), some (.inr (.inr 26)), some (.inl q)] [] (cm_hp F X)) (P := fun q F => (∀ p, 0 ≤ p → p < q → agS (stt F (bdr p)) (stt D (adr p))) ∧ ∀ x : Nat, (x < 324 ∨ 604 ≤ x) → F x = D x) (lo := 0) (hi := 40) (fun q F q0 q1 hP => by
    have ha : isT (bdr q) := isT_b q1
    have hB : isT (adr q) := isT_a q1
    have hra : 324 ≤ bdr q ∧ bdr q + 7 ≤ 604 := by unfold bdr; omega
    have hrb : adr q + 7 ≤ 324 ∨ 604 ≤ adr q := by unfold adr; omega
    have hag : agS (stt F (adr q)) (stt D (adr q)) := agS_of fun j hj => hP.2 _ (by omega)
    have hb2 : bS (stt F (adr q)) := ⟨by rw [hag.2.2.2.1]; exact (hb q q0 q1).1, fun n a b => by rw [(hag.1 n a b).2.2]; exact (hb q q0 q1).2 n a b⟩
    obtain ⟨G, g1, g2, g3⟩ := ev_takeFrom (X := X) ha hB (by omega) hb2
    have e : cm_wr (q + 1) = q + 1 := cm_wr_id (by omega) (by omega)
    have h1 : bdr q < 300000 := by omega
    have h2 : adr q < 300000 := by unfold adr; omega
    refine ⟨G, ?_, fun p p0 p1 => ?_, fun x hx => ?_⟩
    · show cm_x 4 2 [some (.inr (.inr 322)), some (.inr (.inr 26)), some (.inl q)] [] (cm_hp F X) = cm_x 4 2 [some (.inr (.inr 322)), some (.inr (.inr 26)), some (.inl (q + 1))] [] (cm_hp G X)
      rw [sg_ati_2, if_pos q1, sg_ati_13, ck_t ⟨q0, q1⟩, bdr_R q0 q1, ck_t h1, sg_ati_14, sg_ati_19, ck_t ⟨q0, q1⟩, adr_R q0 q1, ck_t h2, sg_ati_20, cl_own (st := [.inr (.inr (adr q)), .inr (.inr (bdr q))]) (h := cm_hp F X) (kd_T ha), sg_ati_20b, g1, aft_n, sg_ati_23, e]
    · by_cases hpq : p = q
      · rw [hpq]; exact agS_tr g2 hag
      · refine agS_tr (agS_of fun j hj => g3 _ ?_) (hP.1 p p0 (by omega))
        unfold bdr
        omega
    · rw [g3 x (by omega)]; exact hP.2 x hx) D (by omega) ⟨fun p p0 p1 => by omega, fun _ _ => rfl⟩
  have l1 : cm_x 4 2 [some (.inr (.inr 322)), some (.inr (.inr 26)), some (.inl 0)] [] (cm_hp D X) = cm_x 4 2 [some (.inr (.inr 322)), some (.inr (.inr 26)), some (.inl 40)] [] (cm_hp F X) := l1
  rw [l1, sg_ati_2, if_neg (by omega)]
  have eT : F 26 = D 26 := l3 _ (by omega)
  refine ⟨_, rfl, fun q q0 q1 => agS_tr (agS_of fun j hj => ?_) (l2 q q0 q1), ?_, ?_, fun x hx hy => ?_⟩
  · have hra : 324 ≤ bdr q := by unfold bdr; omega
    have hrb : bdr q + 7 ≤ 604 := by unfold bdr; omega
    show cm_up (cm_up F 322 1 _) 322 2 _ (bdr q + j) = F (bdr q + j)
    rw [up_row (by omega), up_row (by omega)]
  · show F 26 1 = _
    rw [eT]
  · show F 26 2 = _
    rw [eT]
  · rw [up_row hx, up_row hx]; exact l3 x hy
