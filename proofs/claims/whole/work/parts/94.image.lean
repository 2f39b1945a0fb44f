/-! the image: both -/
variable {D E : Nat → Int → Int} {X : cm_X} {K B K' B' : Int → Int} {h pk t : Int} {r : Int → Int}
theorem ev_ct_in : ∃ f, cm_x 237 0 [some (.inr (.inr 628)), some (.inr (.inr 617)), none] [] (cm_hp D X) = some (.inl none, cm_hp (cm_ua D 628 f) X) ∧ ∀ j, 0 ≤ j → j < 246 → f j = D 617 j := by
  obtain ⟨f, L, P⟩ := lp_inv (X := fun i f => cm_x 237 2 [some (.inr (.inr 628)), some (.inr (.inr 617)), some (.inl (i))] [] (cm_hp (cm_ua D 628 f) X)) (P := fun i f => ∀ j, 0 ≤ j → j < i → f j = D 617 j) (lo := 0) (hi := 246) (fun i f i0 i1 hP => by
    refine ⟨cm_u1 f i (D 617 i), ?_, fun j j0 j1 => ?_⟩
    · show cm_x 237 2 [some (.inr (.inr 628)), some (.inr (.inr 617)), some (.inl (i))] [] (cm_hp (cm_ua D 628 f) X) = cm_x 237 2 [some (.inr (.inr 628)), some (.inr (.inr 617)), some (.inl (i + 1))] [] (cm_hp (cm_ua D 628 (cm_u1 f i (D 617 i))) X)
      have q : cm_ua D 628 f 617 = D 617 := rfl
      rw [sg_X9_copyTo_in_2, if_pos i1, ck_t (by omega), ck_t (by omega), q, up_to_ua, ua_ua, ua_same, cm_wr_id (by omega) (by omega)]
    · by_cases hj : j = i
      · rw [hj, u1_eq]
      · rw [u1_ne hj]; exact hP j j0 (by omega)) (D 628) (by omega) (fun j j0 j1 => by omega)
  have L : cm_x 237 2 [some (.inr (.inr 628)), some (.inr (.inr 617)), some (.inl (0))] [] (cm_hp D X) = cm_x 237 2 [some (.inr (.inr 628)), some (.inr (.inr 617)), some (.inl (246))] [] (cm_hp (cm_ua D 628 f) X) := by
    have := L
    rw [ua_id] at this
    exact this
  refine ⟨f, ?_, P⟩
  rw [sg_X9_copyTo_in_0, L, sg_X9_copyTo_in_2, if_neg (by omega)]
theorem ev_ct_ni : ∃ f, cm_x 237 0 [some (.inr (.inr 617)), some (.inr (.inr 628)), none] [] (cm_hp D X) = some (.inl none, cm_hp (cm_ua D 617 f) X) ∧ ∀ j, 0 ≤ j → j < 246 → f j = D 628 j := by
  obtain ⟨f, L, P⟩ := lp_inv (X := fun i f => cm_x 237 2 [some (.inr (.inr 617)), some (.inr (.inr 628)), some (.inl (i))] [] (cm_hp (cm_ua D 617 f) X)) (P := fun i f => ∀ j, 0 ≤ j → j < i → f j = D 628 j) (lo := 0) (hi := 246) (fun i f i0 i1 hP => by
    refine ⟨cm_u1 f i (D 628 i), ?_, fun j j0 j1 => ?_⟩
    · show cm_x 237 2 [some (.inr (.inr 617)), some (.inr (.inr 628)), some (.inl (i))] [] (cm_hp (cm_ua D 617 f) X) = cm_x 237 2 [some (.inr (.inr 617)), some (.inr (.inr 628)), some (.inl (i + 1))] [] (cm_hp (cm_ua D 617 (cm_u1 f i (D 628 i))) X)
      have q : cm_ua D 617 f 628 = D 628 := rfl
      rw [sg_X9_copyTo_ni_2, if_pos i1, ck_t (by omega), ck_t (by omega), q, up_to_ua, ua_ua, ua_same, cm_wr_id (by omega) (by omega)]
    · by_cases hj : j = i
      · rw [hj, u1_eq]
      · rw [u1_ne hj]; exact hP j j0 (by omega)) (D 617) (by omega) (fun j j0 j1 => by omega)
  have L : cm_x 237 2 [some (.inr (.inr 617)), some (.inr (.inr 628)), some (.inl (0))] [] (cm_hp D X) = cm_x 237 2 [some (.inr (.inr 617)), some (.inr (.inr 628)), some (.inl (246))] [] (cm_hp (cm_ua D 617 f) X) := by
    have := L
    rw [ua_id] at this
    exact this
  refine ⟨f, ?_, P⟩
  rw [sg_X9_copyTo_ni_0, L, sg_X9_copyTo_ni_2, if_neg (by omega)]
theorem ev_ct_pi : ∃ f, cm_x 237 0 [some (.inr (.inr 629)), some (.inr (.inr 626)), none] [] (cm_hp D X) = some (.inl none, cm_hp (cm_ua D 629 f) X) ∧ ∀ j, 0 ≤ j → j < 9840 → f j = D 626 j := by
  obtain ⟨f, L, P⟩ := lp_inv (X := fun i f => cm_x 237 2 [some (.inr (.inr 629)), some (.inr (.inr 626)), some (.inl (i))] [] (cm_hp (cm_ua D 629 f) X)) (P := fun i f => ∀ j, 0 ≤ j → j < i → f j = D 626 j) (lo := 0) (hi := 9840) (fun i f i0 i1 hP => by
    refine ⟨cm_u1 f i (D 626 i), ?_, fun j j0 j1 => ?_⟩
    · show cm_x 237 2 [some (.inr (.inr 629)), some (.inr (.inr 626)), some (.inl (i))] [] (cm_hp (cm_ua D 629 f) X) = cm_x 237 2 [some (.inr (.inr 629)), some (.inr (.inr 626)), some (.inl (i + 1))] [] (cm_hp (cm_ua D 629 (cm_u1 f i (D 626 i))) X)
      have q : cm_ua D 629 f 626 = D 626 := rfl
      rw [sg_X9_copyTo_pi_2, if_pos i1, ck_t (by omega), ck_t (by omega), q, up_to_ua, ua_ua, ua_same, cm_wr_id (by omega) (by omega)]
    · by_cases hj : j = i
      · rw [hj, u1_eq]
      · rw [u1_ne hj]; exact hP j j0 (by omega)) (D 629) (by omega) (fun j j0 j1 => by omega)
  have L : cm_x 237 2 [some (.inr (.inr 629)), some (.inr (.inr 626)), some (.inl (0))] [] (cm_hp D X) = cm_x 237 2 [some (.inr (.inr 629)), some (.inr (.inr 626)), some (.inl (9840))] [] (cm_hp (cm_ua D 629 f) X) := by
    have := L
    rw [ua_id] at this
    exact this
  refine ⟨f, ?_, P⟩
  rw [sg_X9_copyTo_pi_0, L, sg_X9_copyTo_pi_2, if_neg (by omega)]
theorem ev_ct_pr : ∃ f, cm_x 237 0 [some (.inr (.inr 626)), some (.inr (.inr 629)), none] [] (cm_hp D X) = some (.inl none, cm_hp (cm_ua D 626 f) X) ∧ ∀ j, 0 ≤ j → j < 9840 → f j = D 629 j := by
  obtain ⟨f, L, P⟩ := lp_inv (X := fun i f => cm_x 237 2 [some (.inr (.inr 626)), some (.inr (.inr 629)), some (.inl (i))] [] (cm_hp (cm_ua D 626 f) X)) (P := fun i f => ∀ j, 0 ≤ j → j < i → f j = D 629 j) (lo := 0) (hi := 9840) (fun i f i0 i1 hP => by
    refine ⟨cm_u1 f i (D 629 i), ?_, fun j j0 j1 => ?_⟩
    · show cm_x 237 2 [some (.inr (.inr 626)), some (.inr (.inr 629)), some (.inl (i))] [] (cm_hp (cm_ua D 626 f) X) = cm_x 237 2 [some (.inr (.inr 626)), some (.inr (.inr 629)), some (.inl (i + 1))] [] (cm_hp (cm_ua D 626 (cm_u1 f i (D 629 i))) X)
      have q : cm_ua D 626 f 629 = D 629 := rfl
      rw [sg_X9_copyTo_pr_2, if_pos i1, ck_t (by omega), ck_t (by omega), q, up_to_ua, ua_ua, ua_same, cm_wr_id (by omega) (by omega)]
    · by_cases hj : j = i
      · rw [hj, u1_eq]
      · rw [u1_ne hj]; exact hP j j0 (by omega)) (D 626) (by omega) (fun j j0 j1 => by omega)
  have L : cm_x 237 2 [some (.inr (.inr 626)), some (.inr (.inr 629)), some (.inl (0))] [] (cm_hp D X) = cm_x 237 2 [some (.inr (.inr 626)), some (.inr (.inr 629)), some (.inl (9840))] [] (cm_hp (cm_ua D 626 f) X) := by
    have := L
    rw [ua_id] at this
    exact this
  refine ⟨f, ?_, P⟩
  rw [sg_X9_copyTo_pr_0, L, sg_X9_copyTo_pr_2, if_neg (by omega)]
theorem ev_ct_ki : ∃ f, cm_x 237 0 [some (.inr (.inr 630)), some (.inr (.inr 619)), none] [] (cm_hp D X) = some (.inl none, cm_hp (cm_ua D 630 f) X) ∧ ∀ j, 0 ≤ j → j < 400 → f j = D 619 j := by
  obtain ⟨f, L, P⟩ := lp_inv (X := fun i f => cm_x 237 2 [some (.inr (.inr 630)), some (.inr (.inr 619)), some (.inl (i))] [] (cm_hp (cm_ua D 630 f) X)) (P := fun i f => ∀ j, 0 ≤ j → j < i → f j = D 619 j) (lo := 0) (hi := 400) (fun i f i0 i1 hP => by
    refine ⟨cm_u1 f i (D 619 i), ?_, fun j j0 j1 => ?_⟩
    · show cm_x 237 2 [some (.inr (.inr 630)), some (.inr (.inr 619)), some (.inl (i))] [] (cm_hp (cm_ua D 630 f) X) = cm_x 237 2 [some (.inr (.inr 630)), some (.inr (.inr 619)), some (.inl (i + 1))] [] (cm_hp (cm_ua D 630 (cm_u1 f i (D 619 i))) X)
      have q : cm_ua D 630 f 619 = D 619 := rfl
      rw [sg_X9_copyTo_ki_2, if_pos i1, ck_t (by omega), ck_t (by omega), q, up_to_ua, ua_ua, ua_same, cm_wr_id (by omega) (by omega)]
    · by_cases hj : j = i
      · rw [hj, u1_eq]
      · rw [u1_ne hj]; exact hP j j0 (by omega)) (D 630) (by omega) (fun j j0 j1 => by omega)
  have L : cm_x 237 2 [some (.inr (.inr 630)), some (.inr (.inr 619)), some (.inl (0))] [] (cm_hp D X) = cm_x 237 2 [some (.inr (.inr 630)), some (.inr (.inr 619)), some (.inl (400))] [] (cm_hp (cm_ua D 630 f) X) := by
    have := L
    rw [ua_id] at this
    exact this
  refine ⟨f, ?_, P⟩
  rw [sg_X9_copyTo_ki_0, L, sg_X9_copyTo_ki_2, if_neg (by omega)]
theorem ev_ct_kr : ∃ f, cm_x 237 0 [some (.inr (.inr 619)), some (.inr (.inr 630)), none] [] (cm_hp D X) = some (.inl none, cm_hp (cm_ua D 619 f) X) ∧ ∀ j, 0 ≤ j → j < 400 → f j = D 630 j := by
  obtain ⟨f, L, P⟩ := lp_inv (X := fun i f => cm_x 237 2 [some (.inr (.inr 619)), some (.inr (.inr 630)), some (.inl (i))] [] (cm_hp (cm_ua D 619 f) X)) (P := fun i f => ∀ j, 0 ≤ j → j < i → f j = D 630 j) (lo := 0) (hi := 400) (fun i f i0 i1 hP => by
    refine ⟨cm_u1 f i (D 630 i), ?_, fun j j0 j1 => ?_⟩
    · show cm_x 237 2 [some (.inr (.inr 619)), some (.inr (.inr 630)), some (.inl (i))] [] (cm_hp (cm_ua D 619 f) X) = cm_x 237 2 [some (.inr (.inr 619)), some (.inr (.inr 630)), some (.inl (i + 1))] [] (cm_hp (cm_ua D 619 (cm_u1 f i (D 630 i))) X)
      have q : cm_ua D 619 f 630 = D 630 := rfl
      rw [sg_X9_copyTo_kr_2, if_pos i1, ck_t (by omega), ck_t (by omega), q, up_to_ua, ua_ua, ua_same, cm_wr_id (by omega) (by omega)]
    · by_cases hj : j = i
      · rw [hj, u1_eq]
      · rw [u1_ne hj]; exact hP j j0 (by omega)) (D 619) (by omega) (fun j j0 j1 => by omega)
  have L : cm_x 237 2 [some (.inr (.inr 619)), some (.inr (.inr 630)), some (.inl (0))] [] (cm_hp D X) = cm_x 237 2 [some (.inr (.inr 619)), some (.inr (.inr 630)), some (.inl (400))] [] (cm_hp (cm_ua D 619 f) X) := by
    have := L
    rw [ua_id] at this
    exact this
  refine ⟨f, ?_, P⟩
  rw [sg_X9_copyTo_kr_0, L, sg_X9_copyTo_kr_2, if_neg (by omega)]
theorem ev_ct_bi : ∃ f, cm_x 237 0 [some (.inr (.inr 631)), some (.inr (.inr 620)), none] [] (cm_hp D X) = some (.inl none, cm_hp (cm_ua D 631 f) X) ∧ ∀ j, 0 ≤ j → j < 6000 → f j = D 620 j := by
  obtain ⟨f, L, P⟩ := lp_inv (X := fun i f => cm_x 237 2 [some (.inr (.inr 631)), some (.inr (.inr 620)), some (.inl (i))] [] (cm_hp (cm_ua D 631 f) X)) (P := fun i f => ∀ j, 0 ≤ j → j < i → f j = D 620 j) (lo := 0) (hi := 6000) (fun i f i0 i1 hP => by
    refine ⟨cm_u1 f i (D 620 i), ?_, fun j j0 j1 => ?_⟩
    · show cm_x 237 2 [some (.inr (.inr 631)), some (.inr (.inr 620)), some (.inl (i))] [] (cm_hp (cm_ua D 631 f) X) = cm_x 237 2 [some (.inr (.inr 631)), some (.inr (.inr 620)), some (.inl (i + 1))] [] (cm_hp (cm_ua D 631 (cm_u1 f i (D 620 i))) X)
      have q : cm_ua D 631 f 620 = D 620 := rfl
      rw [sg_X9_copyTo_bi_2, if_pos i1, ck_t (by omega), ck_t (by omega), q, up_to_ua, ua_ua, ua_same, cm_wr_id (by omega) (by omega)]
    · by_cases hj : j = i
      · rw [hj, u1_eq]
      · rw [u1_ne hj]; exact hP j j0 (by omega)) (D 631) (by omega) (fun j j0 j1 => by omega)
  have L : cm_x 237 2 [some (.inr (.inr 631)), some (.inr (.inr 620)), some (.inl (0))] [] (cm_hp D X) = cm_x 237 2 [some (.inr (.inr 631)), some (.inr (.inr 620)), some (.inl (6000))] [] (cm_hp (cm_ua D 631 f) X) := by
    have := L
    rw [ua_id] at this
    exact this
  refine ⟨f, ?_, P⟩
  rw [sg_X9_copyTo_bi_0, L, sg_X9_copyTo_bi_2, if_neg (by omega)]
theorem ev_ct_br : ∃ f, cm_x 237 0 [some (.inr (.inr 620)), some (.inr (.inr 631)), none] [] (cm_hp D X) = some (.inl none, cm_hp (cm_ua D 620 f) X) ∧ ∀ j, 0 ≤ j → j < 6000 → f j = D 631 j := by
  obtain ⟨f, L, P⟩ := lp_inv (X := fun i f => cm_x 237 2 [some (.inr (.inr 620)), some (.inr (.inr 631)), some (.inl (i))] [] (cm_hp (cm_ua D 620 f) X)) (P := fun i f => ∀ j, 0 ≤ j → j < i → f j = D 631 j) (lo := 0) (hi := 6000) (fun i f i0 i1 hP => by
    refine ⟨cm_u1 f i (D 631 i), ?_, fun j j0 j1 => ?_⟩
    · show cm_x 237 2 [some (.inr (.inr 620)), some (.inr (.inr 631)), some (.inl (i))] [] (cm_hp (cm_ua D 620 f) X) = cm_x 237 2 [some (.inr (.inr 620)), some (.inr (.inr 631)), some (.inl (i + 1))] [] (cm_hp (cm_ua D 620 (cm_u1 f i (D 631 i))) X)
      have q : cm_ua D 620 f 631 = D 631 := rfl
      rw [sg_X9_copyTo_br_2, if_pos i1, ck_t (by omega), ck_t (by omega), q, up_to_ua, ua_ua, ua_same, cm_wr_id (by omega) (by omega)]
    · by_cases hj : j = i
      · rw [hj, u1_eq]
      · rw [u1_ne hj]; exact hP j j0 (by omega)) (D 620) (by omega) (fun j j0 j1 => by omega)
  have L : cm_x 237 2 [some (.inr (.inr 620)), some (.inr (.inr 631)), some (.inl (0))] [] (cm_hp D X) = cm_x 237 2 [some (.inr (.inr 620)), some (.inr (.inr 631)), some (.inl (6000))] [] (cm_hp (cm_ua D 620 f) X) := by
    have := L
    rw [ua_id] at this
    exact this
  refine ⟨f, ?_, P⟩
  rw [sg_X9_copyTo_br_0, L, sg_X9_copyTo_br_2, if_neg (by omega)]
theorem ev_ct_si : ∃ f, cm_x 237 0 [some (.inr (.inr 632)), some (.inr (.inr 616)), none] [] (cm_hp D X) = some (.inl none, cm_hp (cm_ua D 632 f) X) ∧ ∀ j, 0 ≤ j → j < 2 → f j = D 616 j := by
  obtain ⟨f, L, P⟩ := lp_inv (X := fun i f => cm_x 237 2 [some (.inr (.inr 632)), some (.inr (.inr 616)), some (.inl (i))] [] (cm_hp (cm_ua D 632 f) X)) (P := fun i f => ∀ j, 0 ≤ j → j < i → f j = D 616 j) (lo := 0) (hi := 2) (fun i f i0 i1 hP => by
    refine ⟨cm_u1 f i (D 616 i), ?_, fun j j0 j1 => ?_⟩
    · show cm_x 237 2 [some (.inr (.inr 632)), some (.inr (.inr 616)), some (.inl (i))] [] (cm_hp (cm_ua D 632 f) X) = cm_x 237 2 [some (.inr (.inr 632)), some (.inr (.inr 616)), some (.inl (i + 1))] [] (cm_hp (cm_ua D 632 (cm_u1 f i (D 616 i))) X)
      have q : cm_ua D 632 f 616 = D 616 := rfl
      rw [sg_X9_copyTo_si_2, if_pos i1, ck_t (by omega), ck_t (by omega), q, up_to_ua, ua_ua, ua_same, cm_wr_id (by omega) (by omega)]
    · by_cases hj : j = i
      · rw [hj, u1_eq]
      · rw [u1_ne hj]; exact hP j j0 (by omega)) (D 632) (by omega) (fun j j0 j1 => by omega)
  have L : cm_x 237 2 [some (.inr (.inr 632)), some (.inr (.inr 616)), some (.inl (0))] [] (cm_hp D X) = cm_x 237 2 [some (.inr (.inr 632)), some (.inr (.inr 616)), some (.inl (2))] [] (cm_hp (cm_ua D 632 f) X) := by
    have := L
    rw [ua_id] at this
    exact this
  refine ⟨f, ?_, P⟩
  rw [sg_X9_copyTo_si_0, L, sg_X9_copyTo_si_2, if_neg (by omega)]
theorem ev_ct_sr : ∃ f, cm_x 237 0 [some (.inr (.inr 616)), some (.inr (.inr 632)), none] [] (cm_hp D X) = some (.inl none, cm_hp (cm_ua D 616 f) X) ∧ ∀ j, 0 ≤ j → j < 2 → f j = D 632 j := by
  obtain ⟨f, L, P⟩ := lp_inv (X := fun i f => cm_x 237 2 [some (.inr (.inr 616)), some (.inr (.inr 632)), some (.inl (i))] [] (cm_hp (cm_ua D 616 f) X)) (P := fun i f => ∀ j, 0 ≤ j → j < i → f j = D 632 j) (lo := 0) (hi := 2) (fun i f i0 i1 hP => by
    refine ⟨cm_u1 f i (D 632 i), ?_, fun j j0 j1 => ?_⟩
    · show cm_x 237 2 [some (.inr (.inr 616)), some (.inr (.inr 632)), some (.inl (i))] [] (cm_hp (cm_ua D 616 f) X) = cm_x 237 2 [some (.inr (.inr 616)), some (.inr (.inr 632)), some (.inl (i + 1))] [] (cm_hp (cm_ua D 616 (cm_u1 f i (D 632 i))) X)
      have q : cm_ua D 616 f 632 = D 632 := rfl
      rw [sg_X9_copyTo_sr_2, if_pos i1, ck_t (by omega), ck_t (by omega), q, up_to_ua, ua_ua, ua_same, cm_wr_id (by omega) (by omega)]
    · by_cases hj : j = i
      · rw [hj, u1_eq]
      · rw [u1_ne hj]; exact hP j j0 (by omega)) (D 616) (by omega) (fun j j0 j1 => by omega)
  have L : cm_x 237 2 [some (.inr (.inr 616)), some (.inr (.inr 632)), some (.inl (0))] [] (cm_hp D X) = cm_x 237 2 [some (.inr (.inr 616)), some (.inr (.inr 632)), some (.inl (2))] [] (cm_hp (cm_ua D 616 f) X) := by
    have := L
    rw [ua_id] at this
    exact this
  refine ⟨f, ?_, P⟩
  rw [sg_X9_copyTo_sr_0, L, sg_X9_copyTo_sr_2, if_neg (by omega)]
/-- a call that answers nothing -/
def VV (t : Int) (D : Nat → Int → Int) (X : cm_X) (cl md : cm_H → cm_R) : Prop := ∃ D' : Nat → Int → Int, cl (cm_hp D X) = some (.inl none, cm_hp D' X) ∧ ∀ Y, ∃ E : Nat → Int → Int, md (cm_hp D' Y) = some (.inl none, cm_hp E Y) ∧ R E (t + 400) ∧ E 100000 = D 100000
theorem cp0 {f g : Int → Int} {n j : Int} (h0 : 0 ≤ j) (h1 : j < n) : cm_cp f g 0 0 n j = f j := by
  rw [cp_at, if_pos (by omega)]
  congr 1
  omega
theorem cp9 {f g : Int → Int} {n j : Int} (h1 : n ≤ j) : cm_cp f g 0 0 n j = g j := by rw [cp_at, if_neg (by omega)]
/-- what lies below the image -/
theorem Rc_lo (h : ∀ x : Nat, x < 308 ∨ (614 ≤ x ∧ x < 628) → E x = D x) (h21 : E 613 21 = D 613 21) (hr : Rc D) : Rc E :=
  Rc_mut hr (fun a ha => h a (by omega)) h21 (by rw [h 15 (by omega)]) (rS_ag (T := stt D 15) (agS_of fun j hj => h _ (by omega)) hr.2.2.2.2.2.1 (by rw [h 617 (by omega)]; exact hr.2.2.2.2.1)) (wS_ag (agS_of fun j hj => h _ (by omega)) hr.2.2.2.2.2)
theorem aR_lo (h : ∀ x : Nat, x < 308 ∨ (614 ≤ x ∧ x < 628) → E x = D x) (h29 : E 613 29 = D 613 29) (hc : Rc D) (hr : aR D) : aR E := by
  unfold aR
  rw [h 619 (by omega), h 620 (by omega), h 626 (by omega), h 26 (by omega), h 15 (by omega), h 9 (by omega), h29]
  exact ⟨aG_eq eqB_rf (rDk_ln hc.1.2.1) hc.1.2.2.1 (fun q q0 q1 => agS_of fun j hj => h _ (by unfold adr; omega)) (fun _ _ _ => rfl) (Int.le_refl _) hr.1, hr.2⟩
theorem tR_lo (h : ∀ x : Nat, x < 308 ∨ (614 ≤ x ∧ x < 628) → E x = D x) (h9 : E 613 9 = D 613 9) (h18 : E 613 18 = D 613 18) (hr : tR D) : tR E := by
  unfold tR
  rw [h 0 (by omega), h 1 (by omega), h 621 (by omega), h 616 (by omega), h9, h18]
  exact hr
theorem lk_lo (h : ∀ x : Nat, x < 308 ∨ (614 ≤ x ∧ x < 628) → E x = D x) (hr : lkOk D t) : lkOk E t := by
  unfold lkOk
  rw [h 9 (by omega), h 14 (by omega)]
  exact hr
/-- the reference takes an image -/
theorem ev_mImage : ∃ E : Nat → Int → Int, cm_x 274 0 [some (.inr (.inr 613))] [] (cm_hp D X) = some (.inl none, cm_hp E X) ∧ (∀ x : Nat, x ≠ 613 → (x < 628 ∨ 633 ≤ x) → E x = D x) ∧ E 613 33 = 1 ∧ E 613 34 = D 613 29 ∧ (∀ j, j ≠ 0 → j ≠ 33 → j ≠ 34 → E 613 j = D 613 j) ∧ (∀ j, 0 ≤ j → j < 246 → E 628 j = D 617 j) ∧ (∀ j, 0 ≤ j → j < 9840 → E 629 j = D 626 j) ∧ (∀ j, 0 ≤ j → j < 400 → E 630 j = D 619 j) ∧ (∀ j, 0 ≤ j → j < 6000 → E 631 j = D 620 j) ∧ (∀ j, 0 ≤ j → j < 2 → E 632 j = D 616 j) := by
  obtain ⟨f1, a1, p1⟩ := ev_ct_in (D := cm_up (cm_up (cm_up D 613 0 0) 613 33 1) 613 34 (D 613 29)) (X := X)
  generalize hE0 : cm_up (cm_up (cm_up D 613 0 0) 613 33 1) 613 34 (D 613 29) = E0 at a1 p1
  have o0 : ∀ x : Nat, x ≠ 613 → E0 x = D x := fun x hx => by rw [← hE0, up_row hx, up_row hx, up_row hx]
  have e613 : E0 613 = cm_u1 (cm_u1 (cm_u1 (D 613) 0 0) 33 1) 34 (D 613 29) := by rw [← hE0]; rfl
  obtain ⟨f2, a2, p2⟩ := ev_ct_pi (D := cm_ua E0 628 f1) (X := X)
  obtain ⟨f3, a3, p3⟩ := ev_ct_ki (D := cm_ua (cm_ua E0 628 f1) 629 f2) (X := X)
  obtain ⟨f4, a4, p4⟩ := ev_ct_bi (D := cm_ua (cm_ua (cm_ua E0 628 f1) 629 f2) 630 f3) (X := X)
  obtain ⟨f5, a5, p5⟩ := ev_ct_si (D := cm_ua (cm_ua (cm_ua (cm_ua E0 628 f1) 629 f2) 630 f3) 631 f4) (X := X)
  refine ⟨cm_ua (cm_ua (cm_ua (cm_ua (cm_ua E0 628 f1) 629 f2) 630 f3) 631 f4) 632 f5, ?_, fun x a b => ?_, ?_, ?_, fun j a b c => ?_, fun j a b => ?_, fun j a b => ?_, fun j a b => ?_, fun j a b => ?_, fun j a b => ?_⟩
  · rw [sg_X9_image_0, hE0, a1, aft_n, sg_X9_image_29, a2, aft_n, sg_X9_image_40, a3, aft_n, sg_X9_image_51, a4, aft_n, sg_X9_image_62, a5, aft_n, sg_X9_image_73]
  · rw [ua_row (by omega), ua_row (by omega), ua_row (by omega), ua_row (by omega), ua_row (by omega), o0 x a]
  · show E0 613 33 = 1
    rw [e613]; rfl
  · show E0 613 34 = _
    rw [e613]; rfl
  · show E0 613 j = _
    rw [e613, u1_ne c, u1_ne b, u1_ne a]
  · show f1 j = _
    rw [p1 j a b, o0 _ (by omega)]
  · show f2 j = _
    rw [p2 j a b, ← o0 626 (by omega)]; rfl
  · show f3 j = _
    rw [p3 j a b, ← o0 619 (by omega)]; rfl
  · show f4 j = _
    rw [p4 j a b, ← o0 620 (by omega)]; rfl
  · show f5 j = _
    rw [p5 j a b, ← o0 616 (by omega)]; rfl
theorem q_image (hR : R D t) (X : cm_X) : VV t D X (fun H => cm_x 158 0 [some (.inr (.inr 0))] [] H) (fun H => cm_x 274 0 [some (.inr (.inr 613))] [] H) := by
  have hc := hR.1
  have hd := hc.1
  have gd := d_g hd
  have hh0 := gd.2.2.1
  have hh4 := gd.2.2.2
  have hw := hc.2.2.2.2.2
  have w15 : cm_wr (D 15 9 * 15) = D 15 9 * 15 := cm_wr_id (by omega) (by omega)
  -- blocks
  have c1 : cm_x 17 0 [some (.inr (.inr 309)), some (.inr (.inr 9)), some (.inl (D 15 9))] [] (cm_hp (cm_up D 308 0 1) X) = some (.inl none, cm_hp (cm_ua (cm_ua (cm_ua (cm_up D 308 0 1) 311 (cm_cp (D 11) (D 311) 0 0 (D 15 9))) 312 (cm_cp (D 12) (D 312) 0 0 (D 15 9))) 313 (cm_cp (D 13) (D 313) 0 0 (D 15 9 * 15))) X) := by
    rw [sg_X2_takeBlocks_i_0, w15, ck_t (by omega), ck_t (by omega), ck_t (by omega)]
    rfl
  generalize hD1 : cm_ua (cm_ua (cm_ua (cm_up D 308 0 1) 311 (cm_cp (D 11) (D 311) 0 0 (D 15 9))) 312 (cm_cp (D 12) (D 312) 0 0 (D 15 9))) 313 (cm_cp (D 13) (D 313) 0 0 (D 15 9 * 15)) = D1 at c1
  have o1 : ∀ x : Nat, x ≠ 308 → x ≠ 311 → x ≠ 312 → x ≠ 313 → D1 x = D x := fun x a b c d => by rw [← hD1, ua_row d, ua_row c, ua_row b, up_row a]
  have e308 : D1 308 = cm_u1 (D 308) 0 1 := by rw [← hD1]; rfl
  have e311 : D1 311 = cm_cp (D 11) (D 311) 0 0 (D 15 9) := by rw [← hD1]; rfl
  have e312 : D1 312 = cm_cp (D 12) (D 312) 0 0 (D 15 9) := by rw [← hD1]; rfl
  have e313 : D1 313 = cm_cp (D 13) (D 313) 0 0 (D 15 9 * 15) := by rw [← hD1]; rfl
  -- the State
  have hag1 : agS (stt D1 15) (stt D 15) := agS_of fun j hj => o1 _ (by omega) (by omega) (by omega) (by omega)
  obtain ⟨D2, c2, s2, o2⟩ := ev_takeFrom (D := D1) (X := X) isT_315 isT_15 (by omega) (bS_n (nS_ag hag1 hw.1))
  -- the acts
  have hring : ∀ q, 0 ≤ q → q < 40 → agS (stt D2 (adr q)) (stt D (adr q)) := fun q q0 q1 => agS_of fun j hj => by
    show D2 (adr q + j) = D (adr q + j)
    rw [o2 _ (by unfold adr; omega), o1 _ (by unfold adr; omega) (by unfold adr; omega) (by unfold adr; omega) (by unfold adr; omega)]
  have hbs : ∀ q, 0 ≤ q → q < 40 → bS (stt D2 (adr q)) := fun q q0 q1 => bS_ag (hring q q0 q1) (hR.2.1.1.2.2.2 q q0 q1)
  obtain ⟨D3, c3, s3, n3, m3, o3⟩ := ev_ati (D := D2) (X := X) hbs
  have d3 : ∀ x : Nat, x < 308 ∨ 604 ≤ x → D3 x = D x := fun x hx => by rw [o3 x (by omega) (by omega), o2 x (by omega), o1 x (by omega) (by omega) (by omega) (by omega)]
  have d308 : D3 308 = cm_u1 (D 308) 0 1 := by rw [o3 _ (by omega) (by omega), o2 _ (by omega), e308]
  have d311 : D3 311 = cm_cp (D 11) (D 311) 0 0 (D 15 9) := by rw [o3 _ (by omega) (by omega), o2 _ (by omega), e311]
  have d312 : D3 312 = cm_cp (D 12) (D 312) 0 0 (D 15 9) := by rw [o3 _ (by omega) (by omega), o2 _ (by omega), e312]
  have d313 : D3 313 = cm_cp (D 13) (D 313) 0 0 (D 15 9 * 15) := by rw [o3 _ (by omega) (by omega), o2 _ (by omega), e313]
  have d315 : agS (stt D3 315) (stt D 15) := agS_tr (agS_of fun j hj => o3 _ (by omega) (by omega)) (agS_tr s2 hag1)
  have dring : ∀ q, 0 ≤ q → q < 40 → agS (stt D3 (bdr q)) (stt D (adr q)) := fun q q0 q1 => agS_tr (s3 q q0 q1) (hring q q0 q1)
  have d26 : D2 26 = D 26 := by rw [o2 26 (by omega), o1 26 (by omega) (by omega) (by omega) (by omega)]
  rw [d26] at n3 m3
  generalize hD4 : cm_up (cm_up D3 308 4 (D3 0 8)) 308 5 (D3 0 9) = D4
  have o4 : ∀ x : Nat, x ≠ 308 → D4 x = D3 x := fun x hx => by rw [← hD4, up_row hx, up_row hx]
  have e4 : D4 308 = cm_u1 (cm_u1 (D3 308) 4 (D3 0 8)) 5 (D3 0 9) := by rw [← hD4]; rfl
  refine ⟨D4, ?_, fun Y => ?_⟩
  · show cm_x 158 0 [some (.inr (.inr 0))] [] (cm_hp D X) = _
    rw [sg_X8_image_0, c1, aft_n, sg_X8_image_29, c2, aft_n, sg_X8_image_43, c3, aft_n, sg_X8_image_57, hD4]
  · obtain ⟨E, m1, m2, m3', m4, m5, p1, p2, p3, p4, p5⟩ := ev_mImage (D := D4) (X := Y)
    have lo : ∀ x : Nat, x < 308 ∨ (614 ≤ x ∧ x < 628) → E x = D x := fun x hx => by rw [m2 x (by omega) (by omega), o4 x (by omega), d3 x (by omega)]
    have d613 : D4 613 = D 613 := by rw [o4 _ (by omega), d3 _ (by omega)]
    rw [d613] at m4 m5
    rw [o4 _ (by omega), d3 _ (by omega)] at p1 p2 p3 p4 p5
    refine ⟨E, m1, ⟨Rc_lo lo (m5 21 (by omega) (by omega) (by omega)) hc, aR_lo lo (m5 29 (by omega) (by omega) (by omega)) hc hR.2.1, ?_, tR_lo lo (m5 9 (by omega) (by omega) (by omega)) (m5 18 (by omega) (by omega) (by omega)) hR.2.2.2.1, lk_mono (lk_lo lo hR.2.2.2.2) (by omega)⟩, ?_⟩
    · have eb : eqB (D 15 9) (D 619) (D 620) (E 630) (E 631) := fun b b0 b1 => ⟨p3 b b0 (by omega), fun i i0 i1 => p4 _ (by omega) (by omega)⟩
      have hln := rDk_ln hd.2.1
      have x308 : E 308 = D4 308 := m2 _ (by omega) (by omega)
      have a315 : agS (stt E 315) (stt D 15) := agS_tr (agS_of fun j hj => (m2 _ (by omega) (by omega)).trans (o4 _ (by omega))) d315
      have x9 : E 315 9 = D 15 9 := a315.2.2.2.2.2.2.1
      unfold iR
      rw [x308, m3', m4, x9, lo 9 (by omega), m2 311 (by omega) (by omega), m2 312 (by omega) (by omega), m2 313 (by omega) (by omega), m2 322 (by omega) (by omega), o4 311 (by omega), o4 312 (by omega), o4 313 (by omega), o4 322 (by omega), d311, d312, d313, n3, m3, e4, d308, d3 0 (by omega)]
      refine ⟨Or.inr rfl, rfl, fun _ => ⟨rDk_eq eb (fun b b0 b1 => ⟨cp0 b0 b1, cp0 b0 b1, fun i i0 i1 => cp0 (by omega) (by omega)⟩) hd.2.1, vDk_eq eb hln hd.2.2.1, hd.2.2.2.1, rS_cg p1 (nS_ag a315 hw.1) (rS_ag a315 hw.1 hc.2.2.2.2.1), wS_ag a315 (wS_eq eb hln hd.2.2.1 (Int.le_refl _) hw), ?_, hR.2.1.2, ?_, ?_⟩⟩
      · have hcn := hR.2.1.1.2.1
        exact aG_eq eb hln hd.2.2.1 (fun q q0 q1 => agS_tr (agS_of fun j hj => (m2 _ (by unfold bdr; omega) (by unfold bdr; omega)).trans (o4 _ (by unfold bdr; omega))) (dring q q0 q1)) (fun j j0 j1 => p2 j j0 (by omega)) (Int.le_refl _) hR.2.1.1
      · rw [p5 0 (by omega) (by omega), hR.2.2.2.1.2.2.2.2.1]; rfl
      · rw [p5 1 (by omega) (by omega), hR.2.2.2.1.2.2.2.2.2]; rfl
    · rw [m2 _ (by omega) (by omega), o4 _ (by omega), d3 _ (by omega)]
