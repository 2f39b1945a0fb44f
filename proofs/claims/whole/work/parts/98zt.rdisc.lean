/-! reading: the disc's clause: both -/
variable {C C' D E E' F : Nat → Int → Int} {X Y : cm_X} {T : Int → Int} {len : Int}
/-- what has been told so far: of the disc, of faulty blocks, of files -/
def dcR (C E : Nat → Int → Int) : Prop := C 2 2 = -1 ∧ C 2 3 = E 613 19 ∧ (C 2 3 = 0 ∨ C 2 3 = 1) ∧ (E 614 5 = C 2 4 ∧ E 614 6 = C 2 5 ∧ E 614 7 = C 2 6 ∧ E 614 8 = C 2 7) ∧ (40 ≤ C 2 4 ∧ C 2 4 ≤ 400) ∧ (2 ≤ C 2 5 ∧ C 2 5 ≤ 16) ∧ (0 ≤ C 2 6 ∧ C 2 6 ≤ 4) ∧ (0 ≤ C 2 7 ∧ C 2 7 ≤ 8)
def bdR (C E : Nat → Int → Int) : Prop := E 614 9 = C 2 9 ∧ (0 ≤ C 2 9 ∧ C 2 9 ≤ 12) ∧ ∀ b, 0 ≤ b → b < 400 → (C 5 b = 0 ∨ C 5 b = 1) ∧ (C 5 b = 1 ↔ ∃ k, 0 ≤ k ∧ k < C 2 9 ∧ E 615 (12 + k) = b)
def flR (C E : Nat → Int → Int) : Prop := E 613 20 = C 2 13 ∧ (0 ≤ C 2 13 ∧ C 2 13 ≤ 12) ∧ (∀ i, 0 ≤ i → i < C 2 13 → (0 ≤ C 6 i ∧ C 6 i < 12) ∧ E 618 (C 6 i) = i + 1 ∧ E 618 (12 + C 6 i) = C 7 i ∧ (0 ≤ C 7 i ∧ C 7 i ≤ 8) ∧ E 618 (24 + C 6 i) = 1 ∧ ∀ c, 0 ≤ c → c < C 7 i → E 618 (132 + 8 * C 6 i + c) = C 8 (i * 8 + c)) ∧ (∀ n, 0 ≤ n → n < 12 → (∀ i, 0 ≤ i → i < C 2 13 → C 6 i ≠ n) → E 618 n = -1 ∧ E 618 (12 + n) = 0 ∧ E 618 (24 + n) = 0) ∧ (∀ y, 36 ≤ y → y < 132 → E 618 y = -1) ∧ (∀ v, 0 ≤ v → v < 13 → E 618 (228 + v) = -1) ∧ E 618 241 = (if C 2 13 = 0 then 0 else 1) ∧ E 618 242 = -1 ∧ E 618 243 = 0 ∧ E 618 244 = 0 ∧ E 618 245 = 0
def pD (C E : Nat → Int → Int) : Prop := dcR C E ∧ bdR C E ∧ flR C E
theorem bdR_c (h : bdR C E) (h1 : C' 2 9 = C 2 9) (h2 : C' 5 = C 5) (h3 : E' 614 9 = E 614 9) (h4 : E' 615 = E 615) : bdR C' E' := by
  unfold bdR
  rw [h1, h2, h3, h4]
  exact h
theorem flR_c (h : flR C E) (h1 : C' 2 13 = C 2 13) (h2 : C' 6 = C 6) (h3 : C' 7 = C 7) (h4 : C' 8 = C 8) (h5 : E' 613 20 = E 613 20) (h6 : E' 618 = E 618) : flR C' E' := by
  unfold flR
  rw [h1, h2, h3, h4, h5, h6]
  exact h
theorem dcR_c (h : dcR C E) (h1 : ∀ j, 2 ≤ j → j ≤ 7 → C' 2 j = C 2 j) (h2 : E' 613 19 = E 613 19) (h3 : ∀ j, 5 ≤ j → j ≤ 8 → E' 614 j = E 614 j) : dcR C' E' := by
  unfold dcR
  rw [h1 2 (by omega) (by omega), h1 3 (by omega) (by omega), h1 4 (by omega) (by omega), h1 5 (by omega) (by omega), h1 6 (by omega) (by omega), h1 7 (by omega) (by omega), h2, h3 5 (by omega) (by omega), h3 6 (by omega) (by omega), h3 7 (by omega) (by omega), h3 8 (by omega) (by omega)]
  exact h
/-- a token more changes nothing of it -/
theorem pD_t (h : pD C E) (a : tF C C') (b : tE E E') : pD C' E' := by
  have e2 : C' 2 = C 2 := a.2 2 (by omega)
  exact ⟨dcR_c h.1 (fun j _ _ => by rw [e2]) (b.1 19 (by omega) (by omega) (by omega) (by omega) (by omega)) (fun j _ _ => by rw [b.2 614 (by omega)]), bdR_c h.2.1 (by rw [e2]) (a.2 5 (by omega)) (by rw [b.2 614 (by omega)]) (b.2 615 (by omega)), flR_c h.2.2 (by rw [e2]) (a.2 6 (by omega)) (a.2 7 (by omega)) (a.2 8 (by omega)) (b.1 20 (by omega) (by omega) (by omega) (by omega) (by omega)) (b.2 618 (by omega))⟩
theorem pOk_t (h : pOk C E) (a : tF C C') (b : tE E E') : pOk C' E' := ⟨by rw [a.2 2 (by omega)]; exact h.1, by rw [b.1 16 (by omega) (by omega) (by omega) (by omega) (by omega)]; exact h.2⟩
-- behind a fault: the rest of the clause
theorem cD56 (h : C 2 1 ≠ 0) (s : Int) : cm_x 53 56 [some (.inr (.inr 2))] [.inl s, .inr (.inr 2)] (cm_hp C X) = some (.inl none, cm_hp (cm_up (cm_up C 2 6 s) 2 7 0) X) := by
  have q : (cm_up C 2 6 s) 2 1 ≠ 0 := h
  rw [sg_X5_readDisc_56, ev_rnF q, aft_v, sg_X5_readDisc_67]
theorem cD46 (h : C 2 1 ≠ 0) (s : Int) : cm_x 53 46 [some (.inr (.inr 2))] [.inl s, .inr (.inr 2)] (cm_hp C X) = some (.inl none, cm_hp (cm_up (cm_up (cm_up C 2 5 s) 2 6 0) 2 7 0) X) := by
  have q : (cm_up C 2 5 s) 2 1 ≠ 0 := h
  rw [sg_X5_readDisc_46, ev_rnF q, aft_v, cD56 q]
theorem cD35 (h : C 2 1 ≠ 0) (s : Int) : cm_x 53 35 [some (.inr (.inr 2))] [.inl s, .inr (.inr 2)] (cm_hp C X) = some (.inl none, cm_hp (cm_up (cm_up (cm_up (cm_up C 2 4 s) 2 5 0) 2 6 0) 2 7 0) X) := by
  have q : (cm_up C 2 4 s) 2 1 ≠ 0 := h
  rw [sg_X5_readDisc_35, ev_rnF q, aft_v, cD46 q]
theorem mD69 (h : E 613 16 ≠ 0) (s : Int) : cm_x 177 69 [some (.inr (.inr 613))] [.inl s, .inl 7, .inr (.inr 614)] (cm_hp E X) = some (.inl none, cm_hp (cm_up (cm_up E 614 7 s) 614 8 0) X) := by
  have q : (cm_up E 614 7 s) 613 16 ≠ 0 := h
  rw [sg_X9_readDisc_69, ev_mrF q, aft_v, sg_X9_readDisc_83]
theorem mD56 (h : E 613 16 ≠ 0) (s : Int) : cm_x 177 56 [some (.inr (.inr 613))] [.inl s, .inl 6, .inr (.inr 614)] (cm_hp E X) = some (.inl none, cm_hp (cm_up (cm_up (cm_up E 614 6 s) 614 7 0) 614 8 0) X) := by
  have q : (cm_up E 614 6 s) 613 16 ≠ 0 := h
  rw [sg_X9_readDisc_56, ev_mrF q, aft_v, mD69 q]
theorem mD42 (h : E 613 16 ≠ 0) (s : Int) : cm_x 177 42 [some (.inr (.inr 613))] [.inl s, .inl 5, .inr (.inr 614)] (cm_hp E X) = some (.inl none, cm_hp (cm_up (cm_up (cm_up (cm_up E 614 5 s) 614 6 2) 614 7 0) 614 8 0) X) := by
  have q : (cm_up E 614 5 s) 613 16 ≠ 0 := h
  rw [sg_X9_readDisc_42, ev_mrF q, aft_v, mD56 q]
theorem mD28 (h : E 613 16 ≠ 0) : cm_x 177 28 [some (.inr (.inr 613))] [] (cm_hp E X) = some (.inl none, cm_hp (cm_up (cm_up (cm_up (cm_up E 614 5 40) 614 6 2) 614 7 0) 614 8 0) X) := by
  rw [sg_X9_readDisc_28, ev_mrF h, aft_v, mD42 h]
theorem pE_4 {j v : Int} (hj : 5 ≤ j) : pE E (cm_up E 614 j v) := ⟨fun _ _ _ _ _ _ _ _ _ _ => rfl, fun i hi => by rw [up_same, u1_ne (by omega)], fun _ _ => rfl, fun x _ h2 _ _ => up_row h2⟩
theorem pE_6 {j v : Int} (hj : j = 16 ∨ j = 17 ∨ j = 19 ∨ j = 20) : pE E (cm_up E 613 j v) := ⟨fun i _ _ _ _ _ h6 h7 h8 h9 => by rw [up_same, u1_ne (by omega)], fun _ _ => rfl, fun _ _ => rfl, fun x h1 _ _ _ => up_row h1⟩
theorem rd_disc (hs : pS C E len) (ho : pOk C E) (hd : pD C E) (hk : C 3 4 ≠ 0) (X Y : cm_X) : ∃ C' E', cm_x 53 0 [some (.inr (.inr 2))] [] (cm_hp C X) = some (.inl none, cm_hp C' X) ∧ cm_x 177 0 [some (.inr (.inr 613))] [] (cm_hp E Y) = some (.inl none, cm_hp E' Y) ∧ pF C C' ∧ pE E E' ∧ ((pS C' E' len ∧ pOk C' E' ∧ pD C' E' ∧ C 3 3 < C' 3 3) ∨ pFt C' E') := by
  obtain ⟨o1, o2⟩ := ho
  obtain ⟨hd1, hd2, hd3⟩ := hd
  obtain ⟨c0, c1, c2, c3, c4, c5, c6, c7⟩ := hd1
  by_cases ht : C 2 3 = 0
  · -- the first one
    have hs1 : pS (cm_up C 2 3 1) (cm_up E 613 19 1) len := hs
    obtain ⟨hx, t1, t2, t3, t4, t5, t6, t7, t8⟩ := hs1
    obtain ⟨C2, E2, b1, b2, b3, b4, b5, b6⟩ := ev_tok hx t1 (by omega) (by omega) X Y
    have hlt : C 3 3 < C2 3 3 := by
      have h1 := hs.2.2.2.2.2.2.1 hk
      have h2 : C 3 2 ≤ C2 3 3 := b4
      omega
    have hs2 : pS C2 E2 len := ⟨txR_f hx (pF_t b5) (pE_t b6), b3⟩
    have ho2 : pOk C2 E2 := pOk_t (C := cm_up C 2 3 1) (E := cm_up E 613 19 1) ⟨o1, o2⟩ b5 b6
    have fC2 : pF C C2 := pF_tr pF_2 (pF_t b5)
    have fE2 : pE E E2 := pE_tr (pE_6 (by omega)) (pE_t b6)
    have cl0 : cm_x 53 0 [some (.inr (.inr 2))] [] (cm_hp C X) = cm_aft 53 32 35 [some (.inr (.inr 2))] [.inr (.inr 2)] (cm_x 54 0 [some (.inr (.inr 2)), some (.inl (40)), some (.inl (400)), none] [] (cm_hp C2 X)) := by
      rw [sg_X5_readDisc_0, if_pos ht, b1, aft_n, sg_X5_readDisc_25]
    have md0 : cm_x 177 0 [some (.inr (.inr 613))] [] (cm_hp E Y) = cm_aft 177 39 42 [some (.inr (.inr 613))] [.inl 5, .inr (.inr 614)] (cm_x 175 0 [some (.inr (.inr 613)), some (.inl (40)), some (.inl (400)), none] [] (cm_hp E2 Y)) := by
      rw [sg_X9_readDisc_0, if_pos (c1.symm.trans ht), sg_X9_readDisc_12, if_pos o2, b2, aft_n, sg_X9_readDisc_28]
    rw [cl0, md0]
    rcases ev_rn hs2 ho2 40 400 X Y with ⟨v1, C3, E3, r1, a1, a2, s3, l3, f3, g3⟩ | ⟨k, k0, a1, a2⟩
    case inr =>
      have qe : (fE E2 k) 613 16 ≠ 0 := k0
      have qc : (fC C2 k) 2 1 ≠ 0 := k0
      rw [a1, aft_v, cD35 qc, a2, aft_v, mD42 qe]
      exact ⟨_, _, rfl, rfl, pF_tr fC2 (pF_tr pF_c (pF_tr pF_2 (pF_tr pF_2 (pF_tr pF_2 pF_2)))), pE_tr fE2 (pE_tr pE_c (pE_tr (pE_4 (by omega)) (pE_tr (pE_4 (by omega)) (pE_tr (pE_4 (by omega)) (pE_4 (by omega)))))), Or.inr (pFt_c hs2 k0)⟩
    have ho3 := pOk_t ho2 f3 g3
    have fC3 := pF_tr fC2 (pF_t f3)
    have fE3 := pE_tr fE2 (pE_t g3)
    rw [a1, aft_v, sg_X5_readDisc_35, a2, aft_v, sg_X9_readDisc_42]
    rcases ev_rn (C := cm_up C3 2 4 v1) (E := cm_up E3 614 5 v1) s3 ho3 2 16 X Y with ⟨v2, C4, E4, r2, a3, a4, s4, l4, f4, g4⟩ | ⟨k, k0, a3, a4⟩
    case inr =>
      have qe : (fE (cm_up E3 614 5 v1) k) 613 16 ≠ 0 := k0
      have qc : (fC (cm_up C3 2 4 v1) k) 2 1 ≠ 0 := k0
      rw [a3, aft_v, cD46 qc, a4, aft_v, mD56 qe]
      exact ⟨_, _, rfl, rfl, pF_tr fC3 (pF_tr pF_2 (pF_tr pF_c (pF_tr pF_2 (pF_tr pF_2 pF_2)))), pE_tr fE3 (pE_tr (pE_4 (by omega)) (pE_tr pE_c (pE_tr (pE_4 (by omega)) (pE_tr (pE_4 (by omega)) (pE_4 (by omega)))))), Or.inr (pFt_c (C := cm_up C3 2 4 v1) (E := cm_up E3 614 5 v1) s3 k0)⟩
    have ho4 := pOk_t (C := cm_up C3 2 4 v1) (E := cm_up E3 614 5 v1) ho3 f4 g4
    have fC4 := pF_tr fC3 (pF_tr (pF_2 (i := 4) (v := v1)) (pF_t f4))
    have fE4 := pE_tr fE3 (pE_tr (pE_4 (j := 5) (v := v1) (by omega)) (pE_t g4))
    rw [a3, aft_v, sg_X5_readDisc_46, a4, aft_v, sg_X9_readDisc_56]
    rcases ev_rn (C := cm_up C4 2 5 v2) (E := cm_up E4 614 6 v2) s4 ho4 0 4 X Y with ⟨v3, C5, E5, r3, a5, a6, s5, l5, f5, g5⟩ | ⟨k, k0, a5, a6⟩
    case inr =>
      have qe : (fE (cm_up E4 614 6 v2) k) 613 16 ≠ 0 := k0
      have qc : (fC (cm_up C4 2 5 v2) k) 2 1 ≠ 0 := k0
      rw [a5, aft_v, cD56 qc, a6, aft_v, mD69 qe]
      exact ⟨_, _, rfl, rfl, pF_tr fC4 (pF_tr pF_2 (pF_tr pF_c (pF_tr pF_2 pF_2))), pE_tr fE4 (pE_tr (pE_4 (by omega)) (pE_tr pE_c (pE_tr (pE_4 (by omega)) (pE_4 (by omega))))), Or.inr (pFt_c (C := cm_up C4 2 5 v2) (E := cm_up E4 614 6 v2) s4 k0)⟩
    have ho5 := pOk_t (C := cm_up C4 2 5 v2) (E := cm_up E4 614 6 v2) ho4 f5 g5
    have fC5 := pF_tr fC4 (pF_tr (pF_2 (i := 5) (v := v2)) (pF_t f5))
    have fE5 := pE_tr fE4 (pE_tr (pE_4 (j := 6) (v := v2) (by omega)) (pE_t g5))
    rw [a5, aft_v, sg_X5_readDisc_56, a6, aft_v, sg_X9_readDisc_69]
    rcases ev_rn (C := cm_up C5 2 6 v3) (E := cm_up E5 614 7 v3) s5 ho5 0 8 X Y with ⟨v4, C6, E6, r4, a7, a8, s6, l6, f6, g6⟩ | ⟨k, k0, a7, a8⟩
    case inr =>
      rw [a7, aft_v, sg_X5_readDisc_67, a8, aft_v, sg_X9_readDisc_83]
      exact ⟨_, _, rfl, rfl, pF_tr fC5 (pF_tr pF_2 (pF_tr pF_c pF_2)), pE_tr fE5 (pE_tr (pE_4 (by omega)) (pE_tr pE_c (pE_4 (by omega)))), Or.inr (pFt_c (C := cm_up C5 2 6 v3) (E := cm_up E5 614 7 v3) s5 k0)⟩
    have ho6 := pOk_t (C := cm_up C5 2 6 v3) (E := cm_up E5 614 7 v3) ho5 f6 g6
    have fC6 := pF_tr fC5 (pF_tr (pF_2 (i := 6) (v := v3)) (pF_t f6))
    have fE6 := pE_tr fE5 (pE_tr (pE_4 (j := 7) (v := v3) (by omega)) (pE_t g6))
    rw [a7, aft_v, sg_X5_readDisc_67, a8, aft_v, sg_X9_readDisc_83]
    refine ⟨_, _, rfl, rfl, pF_tr fC6 pF_2, pE_tr fE6 (pE_4 (by omega)), Or.inl ⟨s6, ho6, ⟨⟨?_, ?_, ?_, ⟨?_, ?_, ?_, ?_⟩, ?_, ?_, ?_, ?_⟩, ?_, ?_⟩, ?_⟩⟩
    -- rows of the class: 2; of the reference: 613, 614
    all_goals
      have y6 : C6 2 = cm_u1 (C5 2) 6 v3 := by rw [f6.2 2 (by omega), up_same]
      have y5 : C5 2 = cm_u1 (C4 2) 5 v2 := by rw [f5.2 2 (by omega), up_same]
      have y4 : C4 2 = cm_u1 (C3 2) 4 v1 := by rw [f4.2 2 (by omega), up_same]
      have y3 : C3 2 = C2 2 := f3.2 2 (by omega)
      have y2 : C2 2 = cm_u1 (C 2) 3 1 := by rw [b5.2 2 (by omega), up_same]
      have z6 : E6 614 = cm_u1 (E5 614) 7 v3 := by rw [g6.2 614 (by omega), up_same]
      have z5 : E5 614 = cm_u1 (E4 614) 6 v2 := by rw [g5.2 614 (by omega), up_same]
      have z4 : E4 614 = cm_u1 (E3 614) 5 v1 := by rw [g4.2 614 (by omega), up_same]
      have z3 : E3 614 = E2 614 := g3.2 614 (by omega)
      have z2 : E2 614 = E 614 := by rw [b6.2 614 (by omega)]; rfl
    · rw [up_same, u1_ne (by omega), y6, u1_ne (by omega), y5, u1_ne (by omega), y4, u1_ne (by omega), y3, y2, u1_ne (by omega)]; exact c0
    · rw [up_same, u1_ne (by omega), y6, u1_ne (by omega), y5, u1_ne (by omega), y4, u1_ne (by omega), y3, y2, u1_eq]
      show _ = E6 613 19
      rw [g6.1 19 (by omega) (by omega) (by omega) (by omega) (by omega)]
      show _ = E5 613 19
      rw [g5.1 19 (by omega) (by omega) (by omega) (by omega) (by omega)]
      show _ = E4 613 19
      rw [g4.1 19 (by omega) (by omega) (by omega) (by omega) (by omega)]
      show _ = E3 613 19
      rw [g3.1 19 (by omega) (by omega) (by omega) (by omega) (by omega), b6.1 19 (by omega) (by omega) (by omega) (by omega) (by omega)]
      rfl
    · rw [up_same, u1_ne (by omega), y6, u1_ne (by omega), y5, u1_ne (by omega), y4, u1_ne (by omega), y3, y2, u1_eq]
      exact Or.inr rfl
    · rw [up_same, u1_ne (by omega), z6, u1_ne (by omega), z5, u1_ne (by omega), z4, u1_eq, up_same, u1_ne (by omega), y6, u1_ne (by omega), y5, u1_ne (by omega), y4, u1_eq]
    · rw [up_same, u1_ne (by omega), z6, u1_ne (by omega), z5, u1_eq, up_same, u1_ne (by omega), y6, u1_ne (by omega), y5, u1_eq]
    · rw [up_same, u1_ne (by omega), z6, u1_eq, up_same, u1_ne (by omega), y6, u1_eq]
    · rw [up_same, u1_eq, up_same, u1_eq]
    · rw [up_same, u1_ne (by omega), y6, u1_ne (by omega), y5, u1_ne (by omega), y4, u1_eq]; exact r1
    · rw [up_same, u1_ne (by omega), y6, u1_ne (by omega), y5, u1_eq]; exact r2
    · rw [up_same, u1_ne (by omega), y6, u1_eq]; exact r3
    · rw [up_same, u1_eq]; exact r4
    · refine bdR_c hd2 ?_ ?_ ?_ ?_
      · rw [up_same, u1_ne (by omega), y6, u1_ne (by omega), y5, u1_ne (by omega), y4, u1_ne (by omega), y3, y2, u1_ne (by omega)]
      · rw [up_row (by omega), f6.2 5 (by omega), up_row (by omega), f5.2 5 (by omega), up_row (by omega), f4.2 5 (by omega), up_row (by omega), f3.2 5 (by omega), b5.2 5 (by omega), up_row (by omega)]
      · rw [up_same, u1_ne (by omega), z6, u1_ne (by omega), z5, u1_ne (by omega), z4, u1_ne (by omega), z3, z2]
      · rw [up_row (by omega), g6.2 615 (by omega), up_row (by omega), g5.2 615 (by omega), up_row (by omega), g4.2 615 (by omega), up_row (by omega), g3.2 615 (by omega), b6.2 615 (by omega), up_row (by omega)]
    · have hr : ∀ x : Nat, x ≠ 2 → x ≠ 3 → (cm_up C6 2 7 v4) x = C x := fun x h2 h3 => by rw [up_row h2, f6.2 x h3, up_row h2, f5.2 x h3, up_row h2, f4.2 x h3, up_row h2, f3.2 x h3, b5.2 x h3, up_row h2]
      refine flR_c hd3 ?_ (hr 6 (by omega) (by omega)) (hr 7 (by omega) (by omega)) (hr 8 (by omega) (by omega)) ?_ ?_
      · rw [up_same, u1_ne (by omega), y6, u1_ne (by omega), y5, u1_ne (by omega), y4, u1_ne (by omega), y3, y2, u1_ne (by omega)]
      · show E6 613 20 = _
        rw [g6.1 20 (by omega) (by omega) (by omega) (by omega) (by omega)]
        show E5 613 20 = _
        rw [g5.1 20 (by omega) (by omega) (by omega) (by omega) (by omega)]
        show E4 613 20 = _
        rw [g4.1 20 (by omega) (by omega) (by omega) (by omega) (by omega)]
        show E3 613 20 = _
        rw [g3.1 20 (by omega) (by omega) (by omega) (by omega) (by omega), b6.1 20 (by omega) (by omega) (by omega) (by omega) (by omega)]
        rfl
      · rw [up_row (by omega), g6.2 618 (by omega), up_row (by omega), g5.2 618 (by omega), up_row (by omega), g4.2 618 (by omega), up_row (by omega), g3.2 618 (by omega), b6.2 618 (by omega), up_row (by omega)]
    · show C 3 3 < C6 3 3
      have h3 : C2 3 3 < C3 3 3 := l3
      have h4 : C3 3 3 < C4 3 3 := l4
      have h5 : C4 3 3 < C5 3 3 := l5
      have h6 : C5 3 3 < C6 3 3 := l6
      omega
  · -- a second one
    have qe : (cm_up (fE E 5) 613 19 1) 613 16 ≠ 0 := by show (5 : Int) ≠ 0; omega
    refine ⟨fC C 5, cm_up (cm_up (cm_up (cm_up (cm_up (fE E 5) 613 19 1) 614 5 40) 614 6 2) 614 7 0) 614 8 0, ?_, ?_, pF_c, ?_, Or.inr (pFt_c hs (show (5 : Int) ≠ 0 by omega))⟩
    case refine_2 =>
      rw [sg_X9_readDisc_0, if_neg (fun z => ht (c1.trans z)), sg_X9_wrong_0, if_pos o2, aft_n, sg_X9_readDisc_12, if_neg (show ¬ (fE E 5) 613 16 = 0 by show ¬ (5 : Int) = 0; omega), mD28 qe]
    · rw [sg_X5_readDisc_0, if_neg ht, sg_X5_fail_0, aft_n, sg_X5_readDisc_12]
    · exact pE_tr pE_c (pE_tr (pE_6 (by omega)) (pE_tr (pE_4 (by omega)) (pE_tr (pE_4 (by omega)) (pE_tr (pE_4 (by omega)) (pE_4 (by omega))))))
