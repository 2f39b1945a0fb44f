/-! disc: the call -/
variable {C C' D E E' F G : Nat → Int → Int} {X Y : cm_X} {K B g : Int → Int} {len pk t n : Int}
/-- the reference is about to read -/
def mSt (C E : Nat → Int → Int) (n : Int) : Prop := (0 ≤ n ∧ n ≤ 700) ∧ E 613 11 = n ∧ E 613 10 = 0 ∧ E 613 16 = 0 ∧ E 613 19 = 0 ∧ E 613 20 = 0 ∧ (E 614 5 = 200 ∧ E 614 6 = 8 ∧ E 614 7 = 1 ∧ E 614 8 = 2 ∧ E 614 9 = 0) ∧ nfF (E 618) ∧ ∀ j, 0 ≤ j → j < 700 → E 621 j = C 1 j ∧ 0 ≤ C 1 j ∧ C 1 j ≤ 255
theorem rd_all (h : mSt C E n) (X Y : cm_X) : ∃ C' E', cm_x 48 0 [some (.inr (.inr 2)), some (.inr (.inr 1)), some (.inl (n)), none] [] (cm_hp C X) = some (.inl none, cm_hp C' X) ∧ cm_x 181 107 [some (.inr (.inr 613)), some (.inl (n)), none] [] (cm_hp E Y) = cm_x 181 111 [some (.inr (.inr 613)), some (.inl (n)), none] [] (cm_hp E' Y) ∧ (∀ x : Nat, x ≠ 2 → x ≠ 3 → x ≠ 5 → x ≠ 6 → x ≠ 7 → x ≠ 8 → C' x = C x) ∧ pE E E' ∧ ((pOk C' E' ∧ pD C' E' ∧ E' 613 12 = 0) ∨ pFt C' E') := by
  obtain ⟨hn, e11, e10, e16, e19, e20, ⟨m5, m6, m7, m8, m9⟩, hnf, hT⟩ := h
  obtain ⟨g, f1, f2⟩ := ev_forget (C := C) X
  generalize hC1 : cm_ua (cm_ua C 5 g) 2 (cm_u1 (cm_u1 (cm_u1 (cm_u1 (cm_u1 (cm_u1 (cm_u1 (cm_u1 (cm_u1 (C 2) 1 0) 2 (-1)) 3 0) 4 200) 5 8) 6 1) 7 2) 9 0) 13 0) = C1 at f1
  have w : cm_mn n 700 = n := mn_l hn.2
  generalize hC2 : cm_up (cm_up C1 3 1 n) 3 2 0 = C2
  have y2 : C2 2 = cm_u1 (cm_u1 (cm_u1 (cm_u1 (cm_u1 (cm_u1 (cm_u1 (cm_u1 (cm_u1 (C 2) 1 0) 2 (-1)) 3 0) 4 200) 5 8) 6 1) 7 2) 9 0) 13 0 := by rw [← hC2, ← hC1]; rfl
  have y5 : C2 5 = g := by rw [← hC2, ← hC1]; rfl
  have y31 : C2 3 1 = n := by rw [← hC2]; rfl
  have y32 : C2 3 2 = 0 := by rw [← hC2]; rfl
  have yx : ∀ x : Nat, x ≠ 2 → x ≠ 3 → x ≠ 5 → C2 x = C x := fun x a b c => by rw [← hC2, up_row b, up_row b, ← hC1, ua_row a, ua_row c]
  have y1 := yx 1 (by omega) (by omega) (by omega)
  have hx : txR C2 E n := ⟨y31, e11, hn, by rw [y1]; exact hT⟩
  obtain ⟨C3, E3, b1, b2, b3, b4, b5, b6⟩ := ev_tok hx (by rw [y32, e10]) (by omega) (by omega) X Y
  have ho2 : pOk C2 E := ⟨by rw [y2]; rfl, e16⟩
  obtain ⟨n1, n2, n3, n4, n5, n6, n7, n8⟩ := hnf
  have hd2 : pD C2 E := by
    refine ⟨⟨?_, ?_, ?_, ⟨?_, ?_, ?_, ?_⟩, ?_, ?_, ?_, ?_⟩, ⟨?_, ?_, fun b b0 b1 => ?_⟩, ⟨?_, ?_, fun i i0 i1 => ?_, fun k k0 k1 _ => n1 k k0 k1, n2, n3, ?_, n5, n6, n7, n8⟩⟩
    all_goals
      have z2 : C2 2 2 = -1 := by rw [y2]; rfl
      have z3 : C2 2 3 = 0 := by rw [y2]; rfl
      have z4 : C2 2 4 = 200 := by rw [y2]; rfl
      have z5 : C2 2 5 = 8 := by rw [y2]; rfl
      have z6 : C2 2 6 = 1 := by rw [y2]; rfl
      have z7 : C2 2 7 = 2 := by rw [y2]; rfl
      have z9 : C2 2 9 = 0 := by rw [y2]; rfl
      have z13 : C2 2 13 = 0 := by rw [y2]; rfl
    · exact z2
    · rw [z3, e19]
    · exact Or.inl z3
    · rw [m5, z4]
    · rw [m6, z5]
    · rw [m7, z6]
    · rw [m8, z7]
    · omega
    · omega
    · omega
    · omega
    · rw [m9, z9]
    · omega
    · rw [y5, f2 b b0 b1]
      exact ⟨Or.inl rfl, fun z => by omega, fun ⟨k, k0, k1, _⟩ => by omega⟩
    · rw [e20, z13]
    · omega
    · omega
    · rw [z13, if_pos rfl]; exact n4
  have hs3 : pS C3 E3 n := ⟨txR_f hx (pF_t b5) (pE_t b6), b3⟩
  have t5 := b3.2.2.2.2.1
  obtain ⟨C', E', c1, c2, c3, c4, c5⟩ := rd_loop (len := n) rfl X Y (n - C3 3 3).toNat C3 E3 0 (by omega) hs3 (pOk_t ho2 b5 b6) (pD_t hd2 b5 b6) (by omega) (by omega)
  refine ⟨C', E', ?_, ?_, fun x h2 h3 h5 h6 h7 h8 => ?_, pE_tr (pE_t b6) c4, c5⟩
  · rw [sg_X5_readText_0, f1, aft_n, sg_X5_readText_4, sg_X7_begin_0, w, hC2, b1, aft_n, sg_X7_begin_24, aft_n, sg_X5_readText_13, c1]
  · rw [sg_X9_disc_107, b2, aft_n, c2]
  · rw [c3.2 x h2 h3 h5 h6 h7 h8, b5.2 x h3, yx x h2 h3 h5]
/-- what was told is taken -/
theorem ev_mTk : ∃ g, cm_x 181 164 [some (.inr (.inr 613)), some (.inl (n)), some (.inl (0))] [] (cm_hp E X) = cm_x 181 191 [some (.inr (.inr 613)), some (.inl (n)), some (.inl (0))] [] (cm_hp (cm_ua E 614 g) X) ∧ ∀ j, 0 ≤ j → j < 5 → g j = E 614 (5 + j) := by
  obtain ⟨g, L, P1, P2⟩ := lp_inv (X := fun j g => cm_x 181 164 [some (.inr (.inr 613)), some (.inl (n)), some (.inl (j))] [] (cm_hp (cm_ua E 614 g) X)) (P := fun j g => (∀ i, 0 ≤ i → i < j → g i = E 614 (5 + i)) ∧ ∀ i, 5 ≤ i → g i = E 614 i) (lo := 0) (hi := 5) (fun j g j0 j1 hP => by
    refine ⟨cm_u1 g j (E 614 (5 + j)), ?_, fun i i0 i1 => ?_, fun i hi => ?_⟩
    · show cm_x 181 164 [some (.inr (.inr 613)), some (.inl (n)), some (.inl (j))] [] (cm_hp (cm_ua E 614 g) X) = cm_x 181 164 [some (.inr (.inr 613)), some (.inl (n)), some (.inl (j + 1))] [] (cm_hp (cm_ua E 614 (cm_u1 g j (E 614 (5 + j)))) X)
      rw [sg_X9_disc_164, if_pos j1, cm_wr_id (x := 5 + j) (by omega) (by omega), ck_t (by omega), ck_t (by omega), cm_wr_id (x := j + 1) (by omega) (by omega), up_to_ua, ua_ua, ua_same, hP.2 (5 + j) (by omega)]
    · by_cases h : i = j
      · rw [h, u1_eq]
      · rw [u1_ne h]; exact hP.1 i i0 (by omega)
    · rw [u1_ne (by omega)]; exact hP.2 i hi) (E 614) (by omega) ⟨fun i i0 i1 => by omega, fun _ _ => rfl⟩
  have L : cm_x 181 164 [some (.inr (.inr 613)), some (.inl (n)), some (.inl (0))] [] (cm_hp (cm_ua E 614 (E 614)) X) = cm_x 181 164 [some (.inr (.inr 613)), some (.inl (n)), some (.inl (5))] [] (cm_hp (cm_ua E 614 g) X) := L
  rw [ua_id] at L
  exact ⟨g, by rw [L, sg_X9_disc_164, if_neg (by omega)], P1⟩
theorem ev_mFk : ∃ g, cm_x 181 191 [some (.inr (.inr 613)), some (.inl (n)), some (.inl (0))] [] (cm_hp E X) = cm_aft 181 226 229 [some (.inr (.inr 613)), some (.inl (n)), some (.inl (12))] [] (cm_x 237 0 [some (.inr (.inr 617)), some (.inr (.inr 618)), none] [] (cm_hp (cm_ua E 615 g) X)) ∧ ∀ j, 0 ≤ j → j < 12 → g j = E 615 (12 + j) := by
  obtain ⟨g, L, P1, P2⟩ := lp_inv (X := fun j g => cm_x 181 191 [some (.inr (.inr 613)), some (.inl (n)), some (.inl (j))] [] (cm_hp (cm_ua E 615 g) X)) (P := fun j g => (∀ i, 0 ≤ i → i < j → g i = E 615 (12 + i)) ∧ ∀ i, 12 ≤ i → g i = E 615 i) (lo := 0) (hi := 12) (fun j g j0 j1 hP => by
    refine ⟨cm_u1 g j (E 615 (12 + j)), ?_, fun i i0 i1 => ?_, fun i hi => ?_⟩
    · show cm_x 181 191 [some (.inr (.inr 613)), some (.inl (n)), some (.inl (j))] [] (cm_hp (cm_ua E 615 g) X) = cm_x 181 191 [some (.inr (.inr 613)), some (.inl (n)), some (.inl (j + 1))] [] (cm_hp (cm_ua E 615 (cm_u1 g j (E 615 (12 + j)))) X)
      rw [sg_X9_disc_191, if_pos j1, cm_wr_id (x := 12 + j) (by omega) (by omega), ck_t (by omega), ck_t (by omega), cm_wr_id (x := j + 1) (by omega) (by omega), up_to_ua, ua_ua, ua_same, hP.2 (12 + j) (by omega)]
    · by_cases h : i = j
      · rw [h, u1_eq]
      · rw [u1_ne h]; exact hP.1 i i0 (by omega)
    · rw [u1_ne (by omega)]; exact hP.2 i hi) (E 615) (by omega) ⟨fun i i0 i1 => by omega, fun _ _ => rfl⟩
  have L : cm_x 181 191 [some (.inr (.inr 613)), some (.inl (n)), some (.inl (0))] [] (cm_hp (cm_ua E 615 (E 615)) X) = cm_x 181 191 [some (.inr (.inr 613)), some (.inl (n)), some (.inl (12))] [] (cm_hp (cm_ua E 615 g) X) := L
  rw [ua_id] at L
  exact ⟨g, by rw [L, sg_X9_disc_191, if_neg (by omega)], P1⟩
theorem ev_ct_nf : ∃ f, cm_x 237 0 [some (.inr (.inr 617)), some (.inr (.inr 618)), none] [] (cm_hp D X) = some (.inl none, cm_hp (cm_ua D 617 f) X) ∧ ∀ j, 0 ≤ j → j < 246 → f j = D 618 j := by
  obtain ⟨f, L, P⟩ := lp_inv (X := fun i f => cm_x 237 2 [some (.inr (.inr 617)), some (.inr (.inr 618)), some (.inl (i))] [] (cm_hp (cm_ua D 617 f) X)) (P := fun i f => ∀ j, 0 ≤ j → j < i → f j = D 618 j) (lo := 0) (hi := 246) (fun i f i0 i1 hP => by
    refine ⟨cm_u1 f i (D 618 i), ?_, fun j j0 j1 => ?_⟩
    · show cm_x 237 2 [some (.inr (.inr 617)), some (.inr (.inr 618)), some (.inl (i))] [] (cm_hp (cm_ua D 617 f) X) = cm_x 237 2 [some (.inr (.inr 617)), some (.inr (.inr 618)), some (.inl (i + 1))] [] (cm_hp (cm_ua D 617 (cm_u1 f i (D 618 i))) X)
      have q : cm_ua D 617 f 618 = D 618 := rfl
      rw [sg_X9_copyTo_nf_2, if_pos i1, ck_t (by omega), ck_t (by omega), q, up_to_ua, ua_ua, ua_same, cm_wr_id (by omega) (by omega)]
    · by_cases hj : j = i
      · rw [hj, u1_eq]
      · rw [u1_ne hj]; exact hP j j0 (by omega)) (D 617) (by omega) (fun j j0 j1 => by omega)
  have L : cm_x 237 2 [some (.inr (.inr 617)), some (.inr (.inr 618)), some (.inl (0))] [] (cm_hp D X) = cm_x 237 2 [some (.inr (.inr 617)), some (.inr (.inr 618)), some (.inl (246))] [] (cm_hp (cm_ua D 617 f) X) := by
    have := L
    rw [ua_id] at this
    exact this
  refine ⟨f, ?_, P⟩
  rw [sg_X9_copyTo_nf_0, L, sg_X9_copyTo_nf_2, if_neg (by omega)]
/-- the reference, up to the first token -/
theorem ev_mStart (h0 : 0 ≤ n) (h1 : n ≤ E 613 9) (h7 : E 613 9 ≤ 700) (hT : ∀ j, 0 ≤ j → j < 700 → E 621 j = C 1 j ∧ 0 ≤ C 1 j ∧ C 1 j ≤ 255) : ∃ E1, cm_x 181 0 [some (.inr (.inr 613)), some (.inl (n)), none] [] (cm_hp E X) = cm_x 181 107 [some (.inr (.inr 613)), some (.inl (n)), none] [] (cm_hp E1 X) ∧ mSt C E1 n ∧ E1 613 0 = 0 ∧ E1 613 9 = 0 ∧ E1 613 18 = -1 ∧ (∀ j, j ≠ 0 → j ≠ 9 → j ≠ 10 → j ≠ 11 → j ≠ 16 → j ≠ 18 → j ≠ 19 → j ≠ 20 → E1 613 j = E 613 j) ∧ (∀ j, j < 5 → E1 614 j = E 614 j) ∧ ∀ x : Nat, x ≠ 613 → x ≠ 614 → x ≠ 618 → E1 x = E x := by
  generalize hE0 : cm_up (cm_up (cm_up (cm_up (cm_up (cm_up (cm_up (cm_up (cm_up (cm_up (cm_up (cm_up (cm_up E 613 0 0) 613 9 0) 613 11 n) 613 10 0) 613 16 0) 613 18 (-1)) 613 19 0) 613 20 0) 614 5 200) 614 6 8) 614 7 1) 614 8 2) 614 9 0 = E0
  obtain ⟨f, f1, f2⟩ := ev_layF (E := E0) (X := X)
  have r13 : E0 613 = cm_u1 (cm_u1 (cm_u1 (cm_u1 (cm_u1 (cm_u1 (cm_u1 (cm_u1 (E 613) 0 0) 9 0) 11 n) 10 0) 16 0) 18 (-1)) 19 0) 20 0 := by rw [← hE0]; rfl
  have r14 : E0 614 = cm_u1 (cm_u1 (cm_u1 (cm_u1 (cm_u1 (E 614) 5 200) 6 8) 7 1) 8 2) 9 0 := by rw [← hE0]; rfl
  have rx : ∀ x : Nat, x ≠ 613 → x ≠ 614 → E0 x = E x := fun x a b => by
    rw [← hE0, up_row b, up_row b, up_row b, up_row b, up_row b, up_row a, up_row a, up_row a, up_row a, up_row a, up_row a, up_row a, up_row a]
  refine ⟨cm_ua E0 618 f, ?_, ⟨⟨h0, by omega⟩, ?_, ?_, ?_, ?_, ?_, ⟨?_, ?_, ?_, ?_, ?_⟩, f2, ?_⟩, ?_, ?_, ?_, fun j a b c d e g i k => ?_, fun j hj => ?_, fun x a b c => by rw [ua_row c, rx x a b]⟩
  · rw [sg_X9_disc_0, if_neg (by omega), if_neg (by omega), hE0, f1, aft_n]
  · rw [ua_row (by omega), r13]; rfl
  · rw [ua_row (by omega), r13]; rfl
  · rw [ua_row (by omega), r13]; rfl
  · rw [ua_row (by omega), r13]; rfl
  · rw [ua_row (by omega), r13]; rfl
  · rw [ua_row (by omega), r14]; rfl
  · rw [ua_row (by omega), r14]; rfl
  · rw [ua_row (by omega), r14]; rfl
  · rw [ua_row (by omega), r14]; rfl
  · rw [ua_row (by omega), r14]; rfl
  · rw [ua_row (by omega), rx 621 (by omega) (by omega)]; exact hT
  · rw [ua_row (by omega), r13]; rfl
  · rw [ua_row (by omega), r13]; rfl
  · rw [ua_row (by omega), r13]; rfl
  · rw [ua_row (by omega), r13, u1_ne k, u1_ne i, u1_ne g, u1_ne e, u1_ne c, u1_ne d, u1_ne b, u1_ne a]
  · rw [ua_row (by omega), r14, u1_ne (by omega), u1_ne (by omega), u1_ne (by omega), u1_ne (by omega), u1_ne (by omega)]
