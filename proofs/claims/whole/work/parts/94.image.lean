/-! the image: both -/
variable {D E : Nat → Int → Int} {X : cm_X} {K B K' B' : Int → Int} {h pk t : Int} {r : Int → Int}
theorem ev_ct_in : ∃ f, cm_x 237 0 [some (.inr (.inr 628)), some (.inr (.inr 617)), none] [] (cm_hp D X) = some (.inl none, cm_hp (cm_ua D 628 f) X) ∧ ∀ j, 0 ≤ j → j < 246 → f j = D 617 j := by
  obtain ⟨f, L, P⟩ := lp_inv (X := fun i f => cm_x 237 2 [some (.inr (.inr 628)), some (.inr (.inr 617)), some (.inl (i))] [] (cm_hp (cm_ua D 628 f) X)) (P := fun i f => ∀ j, 0 ≤ j → j < i → f j = D 617 j) (lo := 0) (hi := 246) (fun i f i0 i1 hP => by
    refine ⟨cm_u1 f i (D 617 i), ?_, fun j j0 j1 => ?_⟩
    · show cm_x 237 2 [some (.inr (.inr 628)), some (.inr (.inr 617)), some (.inl (i))] [] (cm_hp (cm_ua D 628 f) X) = cm_x 237 2 [some (.inr (.inr 628)), some (.inr (.inr 617)), some (.inl (i + 1))] [] (cm_hp (cm_ua D 628 (cm_u1 f i (D 617 i))) X)
      have q : cm_ua D 628 f 617 = D 617 := rfl
      rw [sg_X9_copyTo_in_2, if_pos i1, ck_t (by omega), ck_t (by omega), q, up_to_ua, ua_ua, ua_same, cm_wr_id (by omega) (by omega)]
    · by_cases hj : j = i
      · rw [hj, u1_eq]
      · rw [u1_ne hj]; exact hP j j0 (by omega)) (D 628) (by omega) (fun j j0 j1 => by omega)
  have L : cm_x 237 2 [some (.inr (.inr 628)), some (.inr (.inr 617)), some (.inl (0))] [] (cm_hp D X) = cm_x 237 2 [some (.inr (.inr 628)), some (.inr (.inr 617)), some (.inl (246))] [] (cm_hp (cm_ua D 628 f) X) := by
    have := L
    rw [ua_id] at this
    exact this
  refine ⟨f, ?_, P⟩
  rw [sg_X9_copyTo_in_0, L, sg_X9_copyTo_in_2, if_neg (by omega)]
theorem ev_ct_ni : ∃ f, cm_x 237 0 [some (.inr (.inr 617)), some (.inr (.inr 628)), none] [] (cm_hp D X) = some (.inl none, cm_hp (cm_ua D 617 f) X) ∧ ∀ j, 0 ≤ j → j < 246 → f j = D 628 j := by
  obtain ⟨f, L, P⟩ := lp_inv (X := fun i f => cm_x 237 2 [some (.inr (.inr 617)), some (.inr (.inr 628)), some (.inl (i))] [] (cm_hp (cm_ua D 617 f) X)) (P := fun i f => ∀ j, 0 ≤ j → j < i → f j = D 628 j) (lo := 0) (hi := 246) (fun i f i0 i1 hP => by
    refine ⟨cm_u1 f i (D 628 i), ?_, fun j j0 j1 => ?_⟩
    · show cm_x 237 2 [some (.inr (.inr 617)), some (.inr (.inr 628)), some (.inl (i))] [] (cm_hp (cm_ua D 617 f) X) = cm_x 237 2 [some (.inr (.inr 617)), some (.inr (.inr 628)), some (.inl (i + 1))] [] (cm_hp (cm_ua D 617 (cm_u1 f i (D 628 i))) X)
      have q : cm_ua D 617 f 628 = D 628 := rfl
      rw [sg_X9_copyTo_ni_2, if_pos i1, ck_t (by omega), ck_t (by omega), q, up_to_ua, ua_ua, ua_same, cm_wr_id (by omega) (by omega)]
    · by_cases hj : j = i
      · rw [hj, u1_eq]
      · rw [u1_ne hj]; exact hP j j0 (by omega)) (D 617) (by omega) (fun j j0 j1 => by omega)
  have L : cm_x 237 2 [some (.inr (.inr 617)), some (.inr (.inr 628)), some (.inl (0))] [] (cm_hp D X) = cm_x 237 2 [some (.inr (.inr 617)), some (.inr (.inr 628)), some (.inl (246))] [] (cm_hp (cm_ua D 617 f) X) := by
    have := L
    rw [ua_id] at this
    exact this
  refine ⟨f, ?_, P⟩
  rw [sg_X9_copyTo_ni_0, L, sg_X9_copyTo_ni_2, if_neg (by omega)]
theorem ev_ct_pi : ∃ f, cm_x 237 0 [some (.inr (.inr 629)), some (.inr (.inr 626)), none] [] (cm_hp D X) = some (.inl none, cm_hp (cm_ua D 629 f) X) ∧ ∀ j, 0 ≤ j → j < 9840 → f j = D 626 j := by
  obtain ⟨f, L, P⟩ := lp_inv (X := fun i f => cm_x 237 2 [some (.inr (.inr 629)), some (.inr (.inr 626)), some (.inl (i))] [] (cm_hp (cm_ua D 629 f) X)) (P := fun i f => ∀ j, 0 ≤ j → j < i → f j = D 626 j) (lo := 0) (hi := 9840) (fun i f i0 i1 hP => by
    refine ⟨cm_u1 f i (D 626 i), ?_, fun j j0 j1 => ?_⟩
    · show cm_x 237 2 [some (.inr (.inr 629)), some (.inr (.inr 626)), some (.inl (i))] [] (cm_hp (cm_ua D 629 f) X) = cm_x 237 2 [some (.inr (.inr 629)), some (.inr (.inr 626)), some (.inl (i + 1))] [] (cm_hp (cm_ua D 629 (cm_u1 f i (D 626 i))) X)
      have q : cm_ua D 629 f 626 = D 626 := rfl
      rw [sg_X9_copyTo_pi_2, if_pos i1, ck_t (by omega), ck_t (by omega), q, up_to_ua, ua_ua, ua_same, cm_wr_id (by omega) (by omega)]
    · by_cases hj : j = i
      · rw [hj, u1_eq]
      · rw [u1_ne hj]; exact hP j j0 (by omega)) (D 629) (by omega) (fun j j0 j1 => by omega)
  have L : cm_x 237 2 [some (.inr (.inr 629)), some (.inr (.inr 626)), some (.inl (0))] [] (cm_hp D X) = cm_x 237 2 [some (.inr (.inr 629)), some (.inr (.inr 626)), some (.inl (9840))] [] (cm_hp (cm_ua D 629 f) X) := by
    have := L
    rw [ua_id] at this
    exact this
  refine ⟨f, ?_, P⟩
  rw [sg_X9_copyTo_pi_0, L, sg_X9_copyTo_pi_2, if_neg (by omega)]
theorem ev_ct_pr : ∃ f, cm_x 237 0 [some (.inr (.inr 626)), some (.inr (.inr 629)), none] [] (cm_hp D X) = some (.inl none, cm_hp (cm_ua D 626 f) X) ∧ ∀ j, 0 ≤ j → j < 9840 → f j = D 629 j := by
  obtain ⟨f, L, P⟩ := lp_inv (X := fun i f => cm_x 237 2 [some (.inr (.inr 626)), some (.inr (.inr 629)), some (.inl (i))] [] (cm_hp (cm_ua D 626 f) X)) (P := fun i f => ∀ j, 0 ≤ j → j < i → f j = D 629 j) (lo := 0) (hi := 9840) (fun i f i0 i1 hP => by
    refine ⟨cm_u1 f i (D 629 i), ?_, fun j j0 j1 => ?_⟩
    · show cm_x 237 2 [some (.inr (.inr 626)), some (.inr (.inr 629)), some (.inl (i))] [] (cm_hp (cm_ua D 626 f) X) = cm_x 237 2 [some (.inr (.inr 626)), some (.inr (.inr 629)), some (.inl (i + 1))] [] (cm_hp (cm_ua D 626 (cm_u1 f i (D 629 i))) X)
      have q : cm_ua D 626 f 629 = D 629 := rfl
      rw [sg_X9_copyTo_pr_2, if_pos i1, ck_t (by omega), ck_t (by omega), q, up_to_ua, ua_ua, ua_same, cm_wr_id (by omega) (by omega)]
    · by_cases hj : j = i
      · rw [hj, u1_eq]
      · rw [u1_ne hj]; exact hP j j0 (by omega)) (D 626) (by omega) (fun j j0 j1 => by omega)
  have L : cm_x 237 2 [some (.inr (.inr 626)), some (.inr (.inr 629)), some (.inl (0))] [] (cm_hp D X) = cm_x 237 2 [some (.inr (.inr 626)), some (.inr (.inr 629)), some (.inl (9840))] [] (cm_hp (cm_ua D 626 f) X) := by
    have := L
    rw [ua_id] at this
    exact this
  refine ⟨f, ?_, P⟩
  rw [sg_X9_copyTo_pr_0, L, sg_X9_copyTo_pr_2, if_neg (by omega)]
theorem ev_ct_ki : ∃ f, cm_x 237 0 [some (.inr (.inr 630)), some (.inr (.inr 619)), none] [] (cm_hp D X) = some (.inl none, cm_hp (cm_ua D 630 f) X) ∧ ∀ j, 0 ≤ j → j < 400 → f j = D 619 j := by
  obtain ⟨f, L, P⟩ := lp_inv (X := fun i f => cm_x 237 2 [some (.inr (.inr 630)), some (.inr (.inr 619)), some (.inl (i))] [] (cm_hp (cm_ua D 630 f) X)) (P := fun i f => ∀ j, 0 ≤ j → j < i → f j = D 619 j) (lo := 0) (hi := 400) (fun i f i0 i1 hP => by
    refine ⟨cm_u1 f i (D 619 i), ?_, fun j j0 j1 => ?_⟩
    · show cm_x 237 2 [some (.inr (.inr 630)), some (.inr (.inr 619)), some (.inl (i))] [] (cm_hp (cm_ua D 630 f) X) = cm_x 237 2 [some (.inr (.inr 630)), some (.inr (.inr 619)), some (.inl (i + 1))] [] (cm_hp (cm_ua D 630 (cm_u1 f i (D 619 i))) X)
      have q : cm_ua D 630 f 619 = D 619 := rfl
      rw [sg_X9_copyTo_ki_2, if_pos i1, ck_t (by omega), ck_t (by omega), q, up_to_ua, ua_ua, ua_same, cm_wr_id (by omega) (by omega)]
    · by_cases hj : j = i
      · rw [hj, u1_eq]
      · rw [u1_ne hj]; exact hP j j0 (by omega)) (D 630) (by omega) (fun j j0 j1 => by omega)
  have L : cm_x 237 2 [some (.inr (.inr 630)), some (.inr (.inr 619)), some (.inl (0))] [] (cm_hp D X) = cm_x 237 2 [some (.inr (.inr 630)), some (.inr (.inr 619)), some (.inl (400))] [] (cm_hp (cm_ua D 630 f) X) := by
    have := L
    rw [ua_id] at this
    exact this
  refine ⟨f, ?_, P⟩
  rw [sg_X9_copyTo_ki_0, L, sg_X9_copyTo_ki_2, if_neg (by omega)]
theorem ev_ct_kr : ∃ f, cm_x 237 0 [some (.inr (.inr 619)), some (.inr (.inr 630)), none] [] (cm_hp D X) = some (.inl none, cm_hp (cm_ua D 619 f) X) ∧ ∀ j, 0 ≤ j → j < 400 → f j = D 630 j := by
  obtain ⟨f, L, P⟩ := lp_inv (X := fun i f => cm_x 237 2 [some (.inr (.inr 619)), some (.inr (.inr 630)), some (.inl (i))] [] (cm_hp (cm_ua D 619 f) X)) (P := fun i f => ∀ j, 0 ≤ j → j < i → f j = D 630 j) (lo := 0) (hi := 400) (fun i f i0 i1 hP => by
    refine ⟨cm_u1 f i (D 630 i), ?_, fun j j0 j1 => ?_⟩
    · show cm_x 237 2 [some (.inr (.inr 619)), some (.inr (.inr 630)), some (.inl (i))] [] (cm_hp (cm_ua D 619 f) X) = cm_x 237 2 [some (.inr (.inr 619)), some (.inr (.inr 630)), some (.inl (i + 1))] [] (cm_hp (cm_ua D 619 (cm_u1 f i (D 630 i))) X)
      have q : cm_ua D 619 f 630 = D 630 := rfl
      rw [sg_X9_copyTo_kr_2, if_pos i1, ck_t (by omega), ck_t (by omega), q, up_to_ua, ua_ua, ua_same, cm_wr_id (by omega) (by omega)]
    · by_cases hj : j = i
      · rw [hj, u1_eq]
      · rw [u1_ne hj]; exact hP j j0 (by omega)) (D 619) (by omega) (fun j j0 j1 => by omega)
  have L : cm_x 237 2 [some (.inr (.inr 619)), some (.inr (.inr 630)), some (.inl (0))] [] (cm_hp D X) = cm_x 237 2 [some (.inr (.inr 619)), some (.inr (.inr 630)), some (.inl (400))] [] (cm_hp (cm_ua D 619 f) X) := by
    have := L
    rw [ua_id] at this
    exact this
  refine ⟨f, ?_, P⟩
  rw [sg_X9_copyTo_kr_0, L, sg_X9_copyTo_kr_2, if_neg (by omega)]
theorem ev_ct_bi : ∃ f, cm_x 237 0 [some (.inr (.inr 631)), some (.inr (.inr 620)), none] [] (cm_hp D X) = some (.inl none, cm_hp (cm_ua D 631 f) X) ∧ ∀ j, 0 ≤ j → j < 6000 → f j = D 620 j := by
  obtain ⟨f, L, P⟩ := lp_inv (X := fun i f => cm_x 237 2 [some (.inr (.inr 631)), some (.inr (.inr 620)), some (.inl (i))] [] (cm_hp (cm_ua D 631 f) X)) (P := fun i f => ∀ j, 0 ≤ j → j < i → f j = D 620 j) (lo := 0) (hi := 6000) (fun i f i0 i1 hP => by
    refine ⟨cm_u1 f i (D 620 i), ?_, fun j j0 j1 => ?_⟩
    · show cm_x 237 2 [some (.inr (.inr 631)), some (.inr (.inr 620)), some (.inl (i))] [] (cm_hp (cm_ua D 631 f) X) = cm_x 237 2 [some (.inr (.inr 631)), some (.inr (.inr 620)), some (.inl (i + 1))] [] (cm_hp (cm_ua D 631 (cm_u1 f i (D 620 i))) X)
      have q : cm_ua D 631 f 620 = D 620 := rfl
      rw [sg_X9_copyTo_bi_2, if_pos i1, ck_t (by omega), ck_t (by omega), q, up_to_ua, ua_ua, ua_same, cm_wr_id (by omega) (by omega)]
    · by_cases hj : j = i
      · rw [hj, u1_eq]
      · rw [u1_ne hj]; exact hP j j0 (by omega)) (D 631) (by omega) (fun j j0 j1 => by omega)
  have L : cm_x 237 2 [some (.inr (.inr 631)), some (.inr (.inr 620)), some (.inl (0))] [] (cm_hp D X) = cm_x 237 2 [some (.inr (.inr 631)), some (.inr (.inr 620)), some (.inl (6000))] [] (cm_hp (cm_ua D 631 f) X) := by
    have := L
    rw [ua_id] at this
    exact this
  refine ⟨f, ?_, P⟩
  rw [sg_X9_copyTo_bi_0, L, sg_X9_copyTo_bi_2, if_neg (by omega)]
theorem ev_ct_br : ∃ f, cm_x 237 0 [some (.inr (.inr 620)), some (.inr (.inr 631)), none] [] (cm_hp D X) = some (.inl none, cm_hp (cm_ua D 620 f) X) ∧ ∀ j, 0 ≤ j → j < 6000 → f j = D 631 j := by
  obtain ⟨f, L, P⟩ := lp_inv (X := fun i f => cm_x 237 2 [some (.inr (.inr 620)), some (.inr (.inr 631)), some (.inl (i))] [] (cm_hp (cm_ua D 620 f) X)) (P := fun i f => ∀ j, 0 ≤ j → j < i → f j = D 631 j) (lo := 0) (hi := 6000) (fun i f i0 i1 hP => by
    refine ⟨cm_u1 f i (D 631 i), ?_, fun j j0 j1 => ?_⟩
    · show cm_x 237 2 [some (.inr (.inr 620)), some (.inr (.inr 631)), some (.inl (i))] [] (cm_hp (cm_ua D 620 f) X) = cm_x 237 2 [some (.inr (.inr 620)), some (.inr (.inr 631)), some (.inl (i + 1))] [] (cm_hp (cm_ua D 620 (cm_u1 f i (D 631 i))) X)
      have q : cm_ua D 620 f 631 = D 631 := rfl
      rw [sg_X9_copyTo_br_2, if_pos i1, ck_t (by omega), ck_t (by omega), q, up_to_ua, ua_ua, ua_same, cm_wr_id (by omega) (by omega)]
    · by_cases hj : j = i
      · rw [hj, u1_eq]
      · rw [u1_ne hj]; exact hP j j0 (by omega)) (D 620) (by omega) (fun j j0 j1 => by omega)
  have L : cm_x 237 2 [some (.inr (.inr 620)), some (.inr (.inr 631)), some (.inl (0))] [] (cm_hp D X) = cm_x 237 2 [some (.inr (.inr 620)), some (.inr (.inr 631)), some (.inl (6000))] [] (cm_hp (cm_ua D 620 f) X) := by
    have := L
    rw [ua_id] at this
    exact this
  refine ⟨f, ?_, P⟩
  rw [sg_X9_copyTo_br_0, L, sg_X9_copyTo_br_2, if_neg (by omega)]
theorem ev_ct_si : ∃ f, cm_x 237 0 [some (.inr (.inr 632)), some (.inr (.inr 616)), none] [] (cm_hp D X) = some (.inl none, cm_hp (cm_ua D 632 f) X) ∧ ∀ j, 0 ≤ j → j < 2 → f j = D 616 j := by
  obtain ⟨f, L, P⟩ := lp_inv (X := fun i f => cm_x 237 2 [some (.inr (.inr 632)), some (.inr (.inr 616)), some (.inl (i))] [] (cm_hp (cm_ua D 632 f) X)) (P := fun i f => ∀ j, 0 ≤ j → j < i → f j = D 616 j) (lo := 0) (hi := 2) (fun i f i0 i1 hP => by
    refine ⟨cm_u1 f i (D 616 i), ?_, fun j j0 j1 => ?_⟩
    · show cm_x 237 2 [some (.inr (.inr 632)), some (.inr (.inr 616)), some (.inl (i))] [] (cm_hp (cm_ua D 632 f) X) = cm_x 237 2 [some (.inr (.inr 632)), some (.inr (.inr 616)), some (.inl (i + 1))] [] (cm_hp (cm_ua D 632 (cm_u1 f i (D 616 i))) X)
      have q : cm_ua D 632 f 616 = D 616 := rfl
      rw [sg_X9_copyTo_si_2, if_pos i1, ck_t (by omega), ck_t (by omega), q, up_to_ua, ua_ua, ua_same, cm_wr_id (by omega) (by omega)]
    · by_cases hj : j = i
      · rw [hj, u1_eq]
      · rw [u1_ne hj]; exact hP j j0 (by omega)) (D 632) (by omega) (fun j j0 j1 => by omega)
  have L : cm_x 237 2 [some (.inr (.inr 632)), some (.inr (.inr 616)), some (.inl (0))] [] (cm_hp D X) = cm_x 237 2 [some (.inr (.inr 632)), some (.inr (.inr 616)), some (.inl (2))] [] (cm_hp (cm_ua D 632 f) X) := by
    have := L
    rw [ua_id] at this
    exact this
  refine ⟨f, ?_, P⟩
  rw [sg_X9_copyTo_si_0, L, sg_X9_copyTo_si_2, if_neg (by omega)]
theorem ev_ct_sr : ∃ f, cm_x 237 0 [some (.inr (.inr 616)), some (.inr (.inr 632)), none] [] (cm_hp D X) = some (.inl none, cm_hp (cm_ua D 616 f) X) ∧ ∀ j, 0 ≤ j → j < 2 → f j = D 632 j := by
  obtain ⟨f, L, P⟩ := lp_inv (X := fun i f => cm_x 237 2 [some (.inr (.inr 616)), some (.inr (.inr 632)), some (.inl (i))] [] (cm_hp (cm_ua D 616 f) X)) (P := fun i f => ∀ j, 0 ≤ j → j < i → f j = D 632 j) (lo := 0) (hi := 2) (fun i f i0 i1 hP => by
    refine ⟨cm_u1 f i (D 632 i), ?_, fun j j0 j1 => ?_⟩
    · show cm_x 237 2 [some (.inr (.inr 616)), some (.inr (.inr 632)), some (.inl (i))] [] (cm_hp (cm_ua D 616 f) X) = cm_x 237 2 [some (.inr (.inr 616)), some (.inr (.inr 632)), some (.inl (i + 1))] [] (cm_hp (cm_ua D 616 (cm_u1 f i (D 632 i))) X)
      have q : cm_ua D 616 f 632 = D 632 := rfl
      rw [sg_X9_copyTo_sr_2, if_pos i1, ck_t (by omega), ck_t (by omega), q, up_to_ua, ua_ua, ua_same, cm_wr_id (by omega) (by omega)]
    · by_cases hj : j = i
      · rw [hj, u1_eq]
      · rw [u1_ne hj]; exact hP j j0 (by omega)) (D 616) (by omega) (fun j j0 j1 => by omega)
  have L : cm_x 237 2 [some (.inr (.inr 616)), some (.inr (.inr 632)), some (.inl (0))] [] (cm_hp D X) = cm_x 237 2 [some (.inr (.inr 616)), some (.inr (.inr 632)), some (.inl (2))] [] (cm_hp (cm_ua D 616 f) X) := by
    have := L
    rw [ua_id] at this
    exact this
  refine ⟨f, ?_, P⟩
  rw [sg_X9_copyTo_sr_0, L, sg_X9_copyTo_sr_2, if_neg (by omega)]
/-- a call that answers nothing -/
def VV (t : Int) (D : Nat → Int → Int) (X : cm_X) (cl md : cm_H → cm_R) : Prop := ∃ D' : Nat → Int → Int, cl (cm_hp D X) = some (.inl none, cm_hp D' X) ∧ ∀ Y, ∃ E : Nat → Int → Int, md (cm_hp D' Y) = some (.inl none, cm_hp E Y) ∧ R E (t + 400) ∧ E 100000 = D 100000
theorem cp0 {f g : Int → Int} {n j : Int} (h0 : 0 ≤ j) (h1 : j < n) : cm_cp f g 0 0 n j = f j := by
  rw [cp_at, if_pos (by omega)]
  congr 1
  omega
theorem cp9 {f g : Int → Int} {n j : Int} (h1 : n ≤ j) : cm_cp f g 0 0 n j = g j := by rw [cp_at, if_neg (by omega)]
theorem q_image (hR : R D t) (X : cm_X) : VV t D X (fun H => cm_x 158 0 [some (.inr (.inr 0))] [] H) (fun H => cm_x 274 0 [some (.inr (.inr 613))] [] H) := by
  have hc := hR.1
  have hd := hc.1
  have gd := d_g hd
  have hh0 := gd.2.2.1
  have hh4 := gd.2.2.2
  have hw := hc.2.2.2.2.2
  have w15 : cm_wr (D 15 9 * 15) = D 15 9 * 15 := cm_wr_id (by omega) (by omega)
  -- blocks
  have c1 : cm_x 17 0 [some (.inr (.inr 309)), some (.inr (.inr 9)), some (.inl (D 15 9))] [] (cm_hp (cm_up D 308 0 1) X) = some (.inl none, cm_hp (cm_ua (cm_ua (cm_ua (cm_up D 308 0 1) 311 (cm_cp (D 11) (D 311) 0 0 (D 15 9))) 312 (cm_cp (D 12) (D 312) 0 0 (D 15 9))) 313 (cm_cp (D 13) (D 313) 0 0 (D 15 9 * 15))) X) := by
    rw [sg_X2_takeBlocks_i_0, w15, ck_t (by omega), ck_t (by omega), ck_t (by omega)]
    rfl
  generalize hD1 : cm_ua (cm_ua (cm_ua (cm_up D 308 0 1) 311 (cm_cp (D 11) (D 311) 0 0 (D 15 9))) 312 (cm_cp (D 12) (D 312) 0 0 (D 15 9))) 313 (cm_cp (D 13) (D 313) 0 0 (D 15 9 * 15)) = D1 at c1
  have o1 : ∀ x : Nat, x ≠ 308 → x ≠ 311 → x ≠ 312 → x ≠ 313 → D1 x = D x := fun x a b c d => by rw [← hD1, ua_row d, ua_row c, ua_row b, up_row a]
  have e308 : D1 308 = cm_u1 (D 308) 0 1 := by rw [← hD1]; rfl
  have e311 : D1 311 = cm_cp (D 11) (D 311) 0 0 (D 15 9) := by rw [← hD1]; rfl
  have e312 : D1 312 = cm_cp (D 12) (D 312) 0 0 (D 15 9) := by rw [← hD1]; rfl
  have e313 : D1 313 = cm_cp (D 13) (D 313) 0 0 (D 15 9 * 15) := by rw [← hD1]; rfl
  -- the State
  have hag1 : agS (stt D1 15) (stt D 15) := agS_of fun j hj => o1 _ (by omega) (by omega) (by omega) (by omega)
  obtain ⟨D2, c2, s2, o2⟩ := ev_takeFrom (D := D1) (X := X) isT_315 isT_15 (by omega) (bS_n (nS_ag hag1 hw.1))
  -- the acts
  have hring : ∀ q, 0 ≤ q → q < 40 → agS (stt D2 (adr q)) (stt D (adr q)) := fun q q0 q1 => agS_of fun j hj => by
    show D2 (adr q + j) = D (adr q + j)
    rw [o2 _ (by unfold adr; omega), o1 _ (by unfold adr; omega) (by unfold adr; omega) (by unfold adr; omega) (by unfold adr; omega)]
  have hbs : ∀ q, 0 ≤ q → q < 40 → bS (stt D2 (adr q)) := fun q q0 q1 => bS_ag (hring q q0 q1) (hR.2.1.1.2.2.2 q q0 q1)
  obtain ⟨D3, c3, s3, n3, m3, o3⟩ := ev_ati (D := D2) (X := X) hbs
  sorry
