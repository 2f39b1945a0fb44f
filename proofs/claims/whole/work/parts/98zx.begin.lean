/-! a text that has been read becomes the disc: both -/
variable {C C' D E E' F : Nat → Int → Int} {X Y : cm_X} {T : Int → Int} {len : Int}
/-- the first row of a text: nothing -/
def nfF (f : Int → Int) : Prop := (∀ n, 0 ≤ n → n < 12 → f n = -1 ∧ f (12 + n) = 0 ∧ f (24 + n) = 0) ∧ (∀ y, 36 ≤ y → y < 132 → f y = -1) ∧ (∀ v, 0 ≤ v → v < 13 → f (228 + v) = -1) ∧ f 241 = 0 ∧ f 242 = -1 ∧ f 243 = 0 ∧ f 244 = 0 ∧ f 245 = 0
theorem ev_layF : ∃ f, cm_x 166 0 [some (.inr (.inr 618))] [] (cm_hp E X) = some (.inl none, cm_hp (cm_ua E 618 f) X) ∧ nfF f := by
  obtain ⟨f1, L1, P1⟩ := lp_inv (X := fun i g => cm_x 165 2 [some (.inr (.inr 618)), some (.inl (i))] [] (cm_hp (cm_ua E 618 g) X)) (P := fun i g => (∀ n, 0 ≤ n → n < i → g n = -1 ∧ g (12 + n) = 0 ∧ g (24 + n) = 0)) (lo := 0) (hi := 12) (fun i g i0 i1 hP => by
    refine ⟨cm_u1 (cm_u1 (cm_u1 g i (-1)) (12 + i) 0) (24 + i) 0, ?_, fun n n0 n1 => ?_⟩
    · show cm_x 165 2 [some (.inr (.inr 618)), some (.inl (i))] [] (cm_hp (cm_ua E 618 g) X) = cm_x 165 2 [some (.inr (.inr 618)), some (.inl (i + 1))] [] (cm_hp (cm_ua E 618 (cm_u1 (cm_u1 (cm_u1 g i (-1)) (12 + i) 0) (24 + i) 0)) X)
      have w0 : cm_wr (0 + i) = i := by rw [Int.zero_add]; exact cm_wr_id (by omega) (by omega)
      rw [sg_X9_noFiles_f_2, if_pos i1, w0]
      simp (disch := omega) only [cm_wr_id, ck_t]
      simp only [up_to_ua, ua_ua, ua_same]
    · by_cases hn : n = i
      · subst hn
        simp (disch := omega) only [u1_ne, u1_eq]
        exact ⟨trivial, trivial, trivial⟩
      · simp (disch := omega) only [u1_ne]
        exact hP n n0 (by omega)) (E 618) (by omega) (fun n n0 n1 => by omega)
  obtain ⟨f2, L2, P2, Q2⟩ := lp_inv (X := fun i g => cm_x 165 36 [some (.inr (.inr 618)), some (.inl (i))] [] (cm_hp (cm_ua E 618 g) X)) (P := fun i g => (∀ n, 0 ≤ n → n < 12 → g n = -1 ∧ g (12 + n) = 0 ∧ g (24 + n) = 0) ∧ ∀ y, 36 ≤ y → y < 36 + i → g y = -1) (lo := 0) (hi := 96) (fun i g i0 i1 hP => by
    refine ⟨cm_u1 (cm_u1 g (36 + i) (-1)) (132 + i) 0, ?_, fun n n0 n1 => ?_, fun y y0 y1 => ?_⟩
    · show cm_x 165 36 [some (.inr (.inr 618)), some (.inl (i))] [] (cm_hp (cm_ua E 618 g) X) = cm_x 165 36 [some (.inr (.inr 618)), some (.inl (i + 1))] [] (cm_hp (cm_ua E 618 (cm_u1 (cm_u1 g (36 + i) (-1)) (132 + i) 0)) X)
      rw [sg_X9_noFiles_f_36, if_pos i1]
      simp (disch := omega) only [cm_wr_id, ck_t]
      simp only [up_to_ua, ua_ua, ua_same]
    · simp (disch := omega) only [u1_ne]
      exact hP.1 n n0 n1
    · rw [u1_ne (by omega)]
      by_cases hy : y = 36 + i
      · rw [hy, u1_eq]
      · rw [u1_ne hy]; exact hP.2 y y0 (by omega)) f1 (by omega) ⟨P1, fun y y0 y1 => by omega⟩
  obtain ⟨f3, L3, P3, Q3, R3⟩ := lp_inv (X := fun i g => cm_x 165 65 [some (.inr (.inr 618)), some (.inl (i))] [] (cm_hp (cm_ua E 618 g) X)) (P := fun i g => (∀ n, 0 ≤ n → n < 12 → g n = -1 ∧ g (12 + n) = 0 ∧ g (24 + n) = 0) ∧ (∀ y, 36 ≤ y → y < 132 → g y = -1) ∧ ∀ v, 0 ≤ v → v < i → g (228 + v) = -1) (lo := 0) (hi := 13) (fun i g i0 i1 hP => by
    refine ⟨cm_u1 g (228 + i) (-1), ?_, fun n n0 n1 => ?_, fun y y0 y1 => ?_, fun v v0 v1 => ?_⟩
    · show cm_x 165 65 [some (.inr (.inr 618)), some (.inl (i))] [] (cm_hp (cm_ua E 618 g) X) = cm_x 165 65 [some (.inr (.inr 618)), some (.inl (i + 1))] [] (cm_hp (cm_ua E 618 (cm_u1 g (228 + i) (-1))) X)
      rw [sg_X9_noFiles_f_65, if_pos i1]
      simp (disch := omega) only [cm_wr_id, ck_t]
      simp only [up_to_ua, ua_ua, ua_same]
    · simp (disch := omega) only [u1_ne]
      exact hP.1 n n0 n1
    · rw [u1_ne (by omega)]; exact hP.2.1 y y0 y1
    · by_cases hv : v = i
      · rw [hv, u1_eq]
      · rw [u1_ne (by omega)]; exact hP.2.2 v v0 (by omega)) f2 (by omega) ⟨P2, Q2, fun v v0 v1 => by omega⟩
  refine ⟨cm_u1 (cm_u1 (cm_u1 (cm_u1 (cm_u1 f3 241 0) 242 (-1)) 243 0) 244 0) 245 0, ?_, fun n n0 n1 => ?_, fun y y0 y1 => ?_, fun v v0 v1 => ?_, rfl, rfl, rfl, rfl, rfl⟩
  · have L1 : cm_x 165 2 [some (.inr (.inr 618)), some (.inl (0))] [] (cm_hp E X) = cm_x 165 2 [some (.inr (.inr 618)), some (.inl (12))] [] (cm_hp (cm_ua E 618 f1) X) := by
      have := L1
      rw [ua_id] at this
      exact this
    have L2 : cm_x 165 36 [some (.inr (.inr 618)), some (.inl (0))] [] (cm_hp (cm_ua E 618 f1) X) = cm_x 165 36 [some (.inr (.inr 618)), some (.inl (96))] [] (cm_hp (cm_ua E 618 f2) X) := L2
    have L3 : cm_x 165 65 [some (.inr (.inr 618)), some (.inl (0))] [] (cm_hp (cm_ua E 618 f2) X) = cm_x 165 65 [some (.inr (.inr 618)), some (.inl (13))] [] (cm_hp (cm_ua E 618 f3) X) := L3
    rw [sg_X9_layNothing_f_0, sg_X9_noFiles_f_0, L1, sg_X9_noFiles_f_2, if_neg (by omega), L2, sg_X9_noFiles_f_36, if_neg (by omega), L3, sg_X9_noFiles_f_65, if_neg (by omega), aft_n, sg_X9_layNothing_f_4]
    simp only [up_to_ua, ua_ua, ua_same]
  · simp (disch := omega) only [u1_ne]
    exact P3 n n0 n1
  · simp (disch := omega) only [u1_ne]
    exact Q3 y y0 (by omega)
  · simp (disch := omega) only [u1_ne]
    exact R3 v v0 v1
/-- the class: the disc takes the text over -/
theorem ev_tkD (h0 : C 10 0 = 0) (X : cm_X) : ∃ A, cm_x 16 0 [some (.inr (.inr 9)), some (.inr (.inr 2)), none] [] (cm_hp C X) = some (.inl none, cm_hp (cm_ua (cm_ua C 9 (cm_u1 (cm_u1 (cm_u1 (cm_u1 (C 9) 0 (C 2 4)) 1 (C 2 5)) 2 (C 2 6)) 3 (C 2 7))) 10 A) X) ∧ A 0 = 0 ∧ ∀ b, 0 ≤ b → b < 400 → A (b + 1) = A b + (if C 5 b = 0 then 0 else 1) := by
  generalize hC1 : cm_up (cm_up (cm_up (cm_up C 9 0 (C 2 4)) 9 1 (C 2 5)) 9 2 (C 2 6)) 9 3 (C 2 7) = C1
  have q5 : C1 5 = C 5 := by rw [← hC1]; rfl
  have q10 : C1 10 = C 10 := by rw [← hC1]; rfl
  have e : C1 = cm_ua C 9 (cm_u1 (cm_u1 (cm_u1 (cm_u1 (C 9) 0 (C 2 4)) 1 (C 2 5)) 2 (C 2 6)) 3 (C 2 7)) := by
    rw [← hC1]
    simp only [up_to_ua, ua_ua, ua_same]
  obtain ⟨A, L, P1, P2, P3⟩ := lp_inv (X := fun j A => cm_x 16 34 [some (.inr (.inr 9)), some (.inr (.inr 2)), some (.inl (j))] [] (cm_hp (cm_ua C1 10 A) X)) (P := fun j A => A 0 = 0 ∧ (0 ≤ A j ∧ A j ≤ j) ∧ ∀ b, 0 ≤ b → b < j → A (b + 1) = A b + (if C 5 b = 0 then 0 else 1)) (lo := 0) (hi := 400) (fun j A j0 j1 hP => by
    obtain ⟨p1, p2, p3⟩ := hP
    have w1 : cm_wr (j + 1) = j + 1 := cm_wr_id (by omega) (by omega)
    have z5 : (cm_ua C1 10 A) 5 = C 5 := q5
    refine ⟨cm_u1 A (j + 1) (A j + (if C 5 j = 0 then 0 else 1)), ?_, ?_, ?_, fun b b0 b1 => ?_⟩
    · show cm_x 16 34 [some (.inr (.inr 9)), some (.inr (.inr 2)), some (.inl (j))] [] (cm_hp (cm_ua C1 10 A) X) = cm_x 16 34 [some (.inr (.inr 9)), some (.inr (.inr 2)), some (.inl (j + 1))] [] (cm_hp (cm_ua C1 10 (cm_u1 A (j + 1) (A j + (if C 5 j = 0 then 0 else 1)))) X)
      rw [sg_X2_takeOver_34, if_pos j1, ck_t (by omega), ck_t (by omega), z5, w1, ua_same]
      by_cases hq : C 5 j = 0
      · rw [if_pos hq, if_pos hq, ck_t (by omega), cm_wr_id (x := A j + 0) (by omega) (by omega), up_to_ua, ua_ua, ua_same]
      · rw [if_neg hq, if_neg hq, ck_t (by omega), cm_wr_id (x := A j + 1) (by omega) (by omega), up_to_ua, ua_ua, ua_same]
    · rw [u1_ne (by omega)]; exact p1
    · rw [u1_eq]
      by_cases hq : C 5 j = 0
      · rw [if_pos hq]; omega
      · rw [if_neg hq]; omega
    · by_cases hb : b = j
      · rw [hb, u1_eq, u1_ne (by omega)]
      · rw [u1_ne (by omega), u1_ne (by omega)]; exact p3 b b0 (by omega)) (C1 10) (by omega) ⟨by rw [q10]; exact h0, by rw [q10, h0]; omega, fun b b0 b1 => by omega⟩
  have L : cm_x 16 34 [some (.inr (.inr 9)), some (.inr (.inr 2)), some (.inl (0))] [] (cm_hp (cm_ua C1 10 (C1 10)) X) = cm_x 16 34 [some (.inr (.inr 9)), some (.inr (.inr 2)), some (.inl (400))] [] (cm_hp (cm_ua C1 10 A) X) := L
  rw [ua_id] at L
  refine ⟨A, ?_, P1, P3⟩
  rw [sg_X2_takeOver_0, hC1, L, sg_X2_takeOver_34, if_neg (by omega), e]
/-- files told, so far: what is in mind of the class -/
def tkQ (C G : Nat → Int → Int) (j : Int) : Prop := (∀ i, 0 ≤ i → i < j → G 16 (C 6 i) = i + 1 ∧ G 17 (C 6 i) = C 7 i ∧ G 18 (C 6 i) = 1 ∧ ∀ c, 0 ≤ c → c < C 7 i → G 19 (C 6 i * 8 + c) = -1 ∧ G 20 (C 6 i * 8 + c) = C 8 (i * 8 + c)) ∧ (∀ n, 0 ≤ n → n < 12 → (∀ i, 0 ≤ i → i < j → C 6 i ≠ n) → G 16 n = 0 ∧ G 17 n = 0 ∧ G 18 n = 0) ∧ (∀ v, 0 ≤ v → v < 13 → G 21 v = -1) ∧ G 15 6 = (if C 2 13 = 0 then 0 else 1) ∧ G 15 7 = -1 ∧ G 15 8 = 0 ∧ G 15 9 = 0 ∧ G 15 10 = 0 ∧ ∀ x : Nat, x < 15 ∨ 22 ≤ x → G x = C x
theorem ev_tkS (hf : 0 ≤ C 2 13 ∧ C 2 13 ≤ 12) (hn : ∀ i, 0 ≤ i → i < C 2 13 → (0 ≤ C 6 i ∧ C 6 i < 12) ∧ (0 ≤ C 7 i ∧ C 7 i ≤ 8)) (hi : ∀ i k, 0 ≤ i → i < C 2 13 → 0 ≤ k → k < C 2 13 → C 6 i = C 6 k → i = k) (X : cm_X) : ∃ C', cm_x 63 0 [some (.inr (.inr 15)), some (.inr (.inr 2)), none, none, none] [] (cm_hp C X) = some (.inl none, cm_hp C' X) ∧ tkQ C C' (C 2 13) := by
  obtain ⟨D1, r1, k1, k2, k3, k4⟩ := ev_drop (D := C) (X := X)
  have d2 : D1 2 = C 2 := k4 2 (by omega) (by omega) (by omega) (by omega) (by omega)
  have start : ∃ G0, cm_x 63 4 [some (.inr (.inr 15)), some (.inr (.inr 2)), none, none, none] [] (cm_hp D1 X) = cm_x 63 42 [some (.inr (.inr 15)), some (.inr (.inr 2)), some (.inl (0)), none, none] [] (cm_hp G0 X) ∧ tkQ C G0 0 := by
    have mk : ∀ u : Int, u = (if C 2 13 = 0 then 0 else 1) → tkQ C (cm_up (cm_up (cm_up (cm_up (cm_up D1 15 7 (-1)) 15 8 0) 15 9 0) 15 10 0) 15 6 u) 0 := fun u hu => by
      refine ⟨fun i i0 i1 => by omega, fun n n0 n1 _ => k1 n n0 n1, fun v v0 v1 => k2 v v0 v1, ?_, rfl, rfl, rfl, rfl, fun x hx => ?_⟩
      · rw [up_same, u1_eq, hu]
      · rw [up_row (by omega), up_row (by omega), up_row (by omega), up_row (by omega), up_row (by omega), k4 x (by omega) (by omega) (by omega) (by omega) (by omega)]
    by_cases h0 : C 2 13 = 0
    · exact ⟨_, by rw [sg_X6_takeOver_4, d2, if_neg (by omega)], mk 0 (by rw [if_pos h0])⟩
    · exact ⟨_, by rw [sg_X6_takeOver_4, d2, if_pos (by omega)], mk 1 (by rw [if_neg h0])⟩
  obtain ⟨G0, s1, s2⟩ := start
  obtain ⟨G, L, P⟩ := lp_inv (X := fun j G => cm_x 63 42 [some (.inr (.inr 15)), some (.inr (.inr 2)), some (.inl (j)), none, none] [] (cm_hp G X)) (P := fun j G => tkQ C G j) (lo := 0) (hi := C 2 13) (fun j G j0 j1 hP => by
    obtain ⟨p1, p2, p3, p4, p5, p6, p7, p8, p9⟩ := hP
    have g2 := p9 2 (by omega)
    have g6 := p9 6 (by omega)
    have g7 := p9 7 (by omega)
    have g8 := p9 8 (by omega)
    obtain ⟨n01, l01⟩ := hn j j0 j1
    have hne : ∀ i, 0 ≤ i → i < j → C 6 i ≠ C 6 j := fun i i0 i1 z => by
      have := hi i j i0 (by omega) j0 j1 z
      omega
    generalize hnn : C 6 j = n at *
    generalize hl : C 7 j = l at *
    have w1 : cm_wr (j + 1) = j + 1 := cm_wr_id (by omega) (by omega)
    generalize hG1 : cm_up (cm_up (cm_up G 16 n (j + 1)) 17 n l) 18 n 1 = G1
    have head : cm_x 63 42 [some (.inr (.inr 15)), some (.inr (.inr 2)), some (.inl (j)), none, none] [] (cm_hp G X) = cm_x 63 94 [some (.inr (.inr 15)), some (.inr (.inr 2)), some (.inl (j)), some (.inl (n)), some (.inl (0))] [] (cm_hp G1 X) := by
      rw [sg_X6_takeOver_42, g2, if_pos j1, if_pos (by omega), ck_t (by omega), g6, hnn, ck_t (by omega), ck_t (by omega), ck_t (by omega), ck_t (by omega), g7, hl, w1, hG1]
    have q17 : G1 17 n = l := by rw [← hG1, up_row (by omega), up_same, u1_eq]
    have q8 : G1 8 = C 8 := by rw [← hG1, up_row (by omega), up_row (by omega), up_row (by omega), g8]
    obtain ⟨H, M, Q1, Q2, Q3⟩ := lp_inv (X := fun c H => cm_x 63 94 [some (.inr (.inr 15)), some (.inr (.inr 2)), some (.inl (j)), some (.inl (n)), some (.inl (c))] [] (cm_hp H X)) (P := fun c H => (∀ e, 0 ≤ e → e < c → H 19 (n * 8 + e) = -1 ∧ H 20 (n * 8 + e) = C 8 (j * 8 + e)) ∧ (∀ y, y < n * 8 ∨ n * 8 + 8 ≤ y → H 19 y = G 19 y ∧ H 20 y = G 20 y) ∧ ∀ x : Nat, x ≠ 19 → x ≠ 20 → H x = G1 x) (lo := 0) (hi := l) (fun c H c0 c1 hQ => by
      obtain ⟨q1, q2, q3⟩ := hQ
      have h17 : H 17 = G1 17 := q3 17 (by omega) (by omega)
      have h8 : H 8 = C 8 := by rw [q3 8 (by omega) (by omega), q8]
      refine ⟨cm_up (cm_up H 19 (n * 8 + c) (-1)) 20 (n * 8 + c) (C 8 (j * 8 + c)), ?_, fun e e0 e1 => ?_, fun y hy => ?_, fun x x1 x2 => by rw [up_row x2, up_row x1, q3 x x1 x2]⟩
      · show cm_x 63 94 [some (.inr (.inr 15)), some (.inr (.inr 2)), some (.inl (j)), some (.inl (n)), some (.inl (c))] [] (cm_hp H X) = _
        rw [sg_X6_takeOver_94, ck_t (by omega), h17, q17, if_pos c1, cm_wr_id (x := j * 8) (by omega) (by omega), cm_wr_id (x := j * 8 + c) (by omega) (by omega), ck_t (by omega), h8, ev_put n01.1 n01.2 c0 (by omega), aft_n, sg_X6_takeOver_125, cm_wr_id (x := c + 1) (by omega) (by omega)]
      · rw [up_row (by omega : (19 : Nat) ≠ 20), up_same, up_same, up_row (by omega : (20 : Nat) ≠ 19)]
        by_cases he : e = c
        · rw [he, u1_eq, u1_eq]; exact ⟨rfl, rfl⟩
        · rw [u1_ne (by omega), u1_ne (by omega)]; exact q1 e e0 (by omega)
      · rw [up_row (by omega : (19 : Nat) ≠ 20), up_same, up_same, up_row (by omega : (20 : Nat) ≠ 19), u1_ne (by omega), u1_ne (by omega)]; exact q2 y hy) G1 (by omega) ⟨fun e e0 e1 => by omega, fun y _ => by rw [← hG1]; exact ⟨rfl, rfl⟩, fun _ _ _ => rfl⟩
    have M : cm_x 63 94 [some (.inr (.inr 15)), some (.inr (.inr 2)), some (.inl (j)), some (.inl (n)), some (.inl (0))] [] (cm_hp G1 X) = cm_x 63 94 [some (.inr (.inr 15)), some (.inr (.inr 2)), some (.inl (j)), some (.inl (n)), some (.inl (l))] [] (cm_hp H X) := M
    have h16 : H 16 = cm_u1 (G 16) n (j + 1) := by rw [Q3 16 (by omega) (by omega), ← hG1]; rfl
    have h17 : H 17 = cm_u1 (G 17) n l := by rw [Q3 17 (by omega) (by omega), ← hG1]; rfl
    have h18 : H 18 = cm_u1 (G 18) n 1 := by rw [Q3 18 (by omega) (by omega), ← hG1]; rfl
    have hx : ∀ x : Nat, x ≠ 16 → x ≠ 17 → x ≠ 18 → x ≠ 19 → x ≠ 20 → H x = G x := fun x a b c d e => by rw [Q3 x d e, ← hG1, up_row c, up_row b, up_row a]
    have h15 := hx 15 (by omega) (by omega) (by omega) (by omega) (by omega)
    have h21 := hx 21 (by omega) (by omega) (by omega) (by omega) (by omega)
    refine ⟨H, ?_, fun i i0 i1 => ?_, fun k k0 k1 hk => ?_, fun v v0 v1 => by rw [h21]; exact p3 v v0 v1, by rw [h15]; exact p4, by rw [h15]; exact p5, by rw [h15]; exact p6, by rw [h15]; exact p7, by rw [h15]; exact p8, fun x hxx => by rw [hx x (by omega) (by omega) (by omega) (by omega) (by omega), p9 x hxx]⟩
    · show cm_x 63 42 [some (.inr (.inr 15)), some (.inr (.inr 2)), some (.inl (j)), none, none] [] (cm_hp G X) = cm_x 63 42 [some (.inr (.inr 15)), some (.inr (.inr 2)), some (.inl (j + 1)), none, none] [] (cm_hp H X)
      rw [head, M, sg_X6_takeOver_94, ck_t (by omega), h17, u1_eq, if_neg (by omega), w1]
    · by_cases hij : i = j
      · rw [hij, hnn, hl, h16, h17, h18, u1_eq, u1_eq, u1_eq]
        exact ⟨rfl, rfl, rfl, fun c c0 c1 => Q1 c c0 c1⟩
      · obtain ⟨a1, a2, a3, a4⟩ := p1 i i0 (by omega)
        have hne' := hne i i0 (by omega)
        have hl' := (hn i i0 (by omega)).2
        rw [h16, h17, h18, u1_ne hne', u1_ne hne', u1_ne hne']
        refine ⟨a1, a2, a3, fun c c0 c1 => ?_⟩
        have hq := Q2 (C 6 i * 8 + c) (by omega)
        rw [hq.1, hq.2]
        exact a4 c c0 c1
    · have hkn : k ≠ n := fun z => hk j j0 (by omega) (by rw [hnn]; exact z.symm)
      rw [h16, h17, h18, u1_ne hkn, u1_ne hkn, u1_ne hkn]
      exact p2 k k0 k1 (fun i i0 i1 => hk i i0 (by omega))) G0 hf.1 s2
  have L : cm_x 63 42 [some (.inr (.inr 15)), some (.inr (.inr 2)), some (.inl (0)), none, none] [] (cm_hp G0 X) = cm_x 63 42 [some (.inr (.inr 15)), some (.inr (.inr 2)), some (.inl (C 2 13)), none, none] [] (cm_hp G X) := L
  refine ⟨G, ?_, P⟩
  rw [sg_X6_takeOver_0, r1, aft_n, s1, L, sg_X6_takeOver_42, P.2.2.2.2.2.2.2.2 2 (by omega), if_neg (by omega)]
