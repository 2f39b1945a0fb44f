/-! a file begins; a cell is set; a file is erased, cut: both -/
variable {D E : Nat → Int → Int} {X : cm_X} {K B : Int → Int} {h pk t : Int} {r : Int → Int}
theorem pig : ∀ (k : Nat) (f : Nat → Nat), (∀ i, i ≤ k → f i < k) → (∀ i j, i ≤ k → j ≤ k → f i = f j → i = j) → False := by
  intro k
  induction k with
  | zero => intro f h1 _; have := h1 0 (Nat.le_refl _); omega
  | succ k ih =>
    intro f h1 h2
    have ha := h1 (k + 1) (Nat.le_refl _)
    refine ih (fun i => if f i = k then f (k + 1) else f i) (fun i hi => ?_) (fun i j hi hj he => ?_)
    · have hb := h1 i (by omega)
      show (if f i = k then f (k + 1) else f i) < k
      by_cases hk : f i = k
      · rw [if_pos hk]
        by_cases h3 : f (k + 1) = k
        · have := h2 i (k + 1) (by omega) (Nat.le_refl _) (by omega); omega
        · omega
      · rw [if_neg hk]; omega
    · have he : (if f i = k then f (k + 1) else f i) = (if f j = k then f (k + 1) else f j) := he
      by_cases h3 : f i = k
      · by_cases h4 : f j = k
        · exact h2 i j (by omega) (by omega) (by omega)
        · rw [if_pos h3, if_neg h4] at he
          have := h2 (k + 1) j (Nat.le_refl _) (by omega) he; omega
      · by_cases h4 : f j = k
        · rw [if_neg h3, if_pos h4] at he
          have := h2 i (k + 1) (by omega) (Nat.le_refl _) he; omega
        · rw [if_neg h3, if_neg h4] at he
          exact h2 i j (by omega) (by omega) he
theorem rlb {x n : Int} (x0 : 0 ≤ x) (x1 : x < 12) (n0 : 0 ≤ n) (n1 : n < 12) (hne : x ≠ n) : (if x.toNat < n.toNat then x.toNat else x.toNat - 1) < 11 := by
  by_cases h : x.toNat < n.toNat
  · rw [if_pos h]; omega
  · rw [if_neg h]; omega
theorem rli {x y n : Int} (x0 : 0 ≤ x) (y0 : 0 ≤ y) (n0 : 0 ≤ n) (hx : x ≠ n) (hy : y ≠ n) (he : (if x.toNat < n.toNat then x.toNat else x.toNat - 1) = (if y.toNat < n.toNat then y.toNat else y.toNat - 1)) : x = y := by
  by_cases h : x.toNat < n.toNat
  · by_cases h2 : y.toNat < n.toNat
    · rw [if_pos h, if_pos h2] at he; omega
    · rw [if_pos h, if_neg h2] at he; omega
  · by_cases h2 : y.toNat < n.toNat
    · rw [if_neg h, if_pos h2] at he; omega
    · rw [if_neg h, if_neg h2] at he; omega
theorem u1_ne {g : Int → Int} {i j v : Int} (h : j ≠ i) : cm_u1 g i v j = g j := if_neg h
theorem u1_eq {g : Int → Int} {i v : Int} : cm_u1 g i v i = v := if_pos rfl
/-- the least virtual block that none has -/
def frV (D : Nat → Int → Int) : Int := fnd (fun v => decide (cNm D v = -1)) 12 11 1
/-- where a name has none, a virtual block is free -/
theorem frV_f {n : Int} (n0 : 0 ≤ n) (n1 : n < 12) (hn : D 16 n = 0) : (1 ≤ frV D ∧ frV D ≤ 12) ∧ cNm D (frV D) = -1 ∧ ∀ v, 1 ≤ v → v < frV D → cNm D v ≠ -1 := by
  unfold frV
  rcases fnd_spec (p := fun v => decide (cNm D v = -1)) (d := 12) (k := 11) (i := 1) with ⟨j, h1, h2, h3, h4, h5⟩ | ⟨h1, h2⟩
  · rw [h4]
    exact ⟨by omega, by simpa using h3, fun v v0 v1 => by have := h5 v v0 v1; simpa using this⟩
  · rw [h1]
    have hall : ∀ v, 1 ≤ v → v < 12 → cNm D v ≠ -1 := fun v v0 v1 => by have := h2 v v0 (by omega); simpa using this
    refine ⟨by omega, ?_, hall⟩
    by_cases h12 : cNm D 12 = -1
    · exact h12
    · exfalso
      have hc : ∀ v : Int, 1 ≤ v → v ≤ 12 → (0 ≤ cNm D v ∧ cNm D v < 12) ∧ D 16 (cNm D v) = v := fun v v0 v1 => by
        by_cases hv : v = 12
        · rw [hv]; exact (cNm_b D 12).resolve_left h12
        · exact (cNm_b D v).resolve_left (hall v v0 (by omega))
      refine pig 11 (fun i => if (cNm D ((i : Int) + 1)).toNat < n.toNat then (cNm D ((i : Int) + 1)).toNat else (cNm D ((i : Int) + 1)).toNat - 1) (fun i hi => ?_) (fun i j hi hj he => ?_)
      · have hq := hc ((i : Int) + 1) (by omega) (by omega)
        have hne : cNm D ((i : Int) + 1) ≠ n := by
          intro hz
          rw [hz] at hq
          omega
        exact rlb hq.1.1 hq.1.2 n0 n1 hne
      · have hq := hc ((i : Int) + 1) (by omega) (by omega)
        have hq2 := hc ((j : Int) + 1) (by omega) (by omega)
        have hne : cNm D ((i : Int) + 1) ≠ n := by
          intro hz
          rw [hz] at hq
          omega
        have hne2 : cNm D ((j : Int) + 1) ≠ n := by
          intro hz
          rw [hz] at hq2
          omega
        have hs : cNm D ((i : Int) + 1) = cNm D ((j : Int) + 1) := rli hq.1.1 hq2.1.1 n0 hne hne2 he
        have h7 := hq.2
        rw [hs, hq2.2] at h7
        omega
theorem lp_run {X : Int → cm_R} {i : Int} : ∀ (k : Nat), (∀ l, i ≤ l → l < i + k → X l = X (l + 1)) → X i = X (i + k) := by
  intro k
  induction k with
  | zero => intro _; rw [show i + ((0 : Nat) : Int) = i by omega]
  | succ k ih =>
    intro hs
    rw [ih (fun l a b => hs l a (by omega)), hs (i + k) (by omega) (by omega), show i + ((k + 1 : Nat) : Int) = i + k + 1 by omega]
theorem ev_free {n : Int} (n0 : 0 ≤ n) (n1 : n < 12) (hn : D 16 n = 0) : cm_x 75 0 [some (.inr (.inr 15)), none] [] (cm_hp D X) = some (.inl (some (.inl (frV D))), cm_hp D X) := by
  obtain ⟨⟨f1, f2⟩, f3, f4⟩ := frV_f n0 n1 hn
  rw [sg_X6_freeVirtual_0]
  have L := lp_run (X := fun v => cm_x 75 2 [some (.inr (.inr 15)), some (.inl (v))] [] (cm_hp D X)) (i := 1) (frV D - 1).toNat (fun l l0 l1 => by
    show cm_x 75 2 [some (.inr (.inr 15)), some (.inl (l))] [] (cm_hp D X) = cm_x 75 2 [some (.inr (.inr 15)), some (.inl (l + 1))] [] (cm_hp D X)
    have := f4 l l0 (by omega)
    rw [sg_X6_freeVirtual_2, if_pos (by omega), ev_nameOf, aft_v, sg_X6_freeVirtual_13, if_neg this, cm_wr_id (by omega) (by omega)])
  refine Eq.trans L ?_
  show cm_x 75 2 [some (.inr (.inr 15)), some (.inl (1 + ((frV D - 1).toNat : Int)))] [] (cm_hp D X) = _
  rw [show 1 + ((frV D - 1).toNat : Int) = frV D by omega, sg_X6_freeVirtual_2]
  by_cases h12 : frV D < 12
  · rw [if_pos h12, ev_nameOf, aft_v, sg_X6_freeVirtual_13, if_pos f3]
  · rw [if_neg h12]
theorem ev_mFree (he : ∀ v, 1 ≤ v → mNm (E 617) v = cNm D v) {n : Int} (n0 : 0 ≤ n) (n1 : n < 12) (hn : D 16 n = 0) : cm_x 239 0 [some (.inr (.inr 613)), none] [] (cm_hp E X) = some (.inl (some (.inl (frV D))), cm_hp E X) := by
  obtain ⟨⟨f1, f2⟩, f3, f4⟩ := frV_f n0 n1 hn
  rw [sg_X9_freeVirtual_0]
  have L := lp_run (X := fun v => cm_x 239 2 [some (.inr (.inr 613)), some (.inl (v))] [] (cm_hp E X)) (i := 1) (frV D - 1).toNat (fun l l0 l1 => by
    show cm_x 239 2 [some (.inr (.inr 613)), some (.inl (l))] [] (cm_hp E X) = cm_x 239 2 [some (.inr (.inr 613)), some (.inl (l + 1))] [] (cm_hp E X)
    have := f4 l l0 (by omega)
    rw [sg_X9_freeVirtual_2, ev_mNameOf, aft_v, he l l0, sg_X9_freeVirtual_7, if_neg this, cm_wr_id (by omega) (by omega)])
  refine Eq.trans L ?_
  show cm_x 239 2 [some (.inr (.inr 613)), some (.inl (1 + ((frV D - 1).toNat : Int)))] [] (cm_hp E X) = _
  rw [show 1 + ((frV D - 1).toNat : Int) = frV D by omega, sg_X9_freeVirtual_2, ev_mNameOf, aft_v, he _ f1, sg_X9_freeVirtual_7, if_pos f3]
def bfD (D : Nat → Int → Int) (n : Int) : Nat → Int → Int := cm_up (cm_up (cm_up D 16 n (frV D)) 21 (frV D) (-1)) 15 6 1
def bfM (r : Int → Int) (n f : Int) : Int → Int := cm_u1 (cm_u1 (cm_u1 (cm_u1 r n f) (12 + n) 0) (228 + f) (-1)) 241 1
theorem ev_begin {n : Int} (n0 : 0 ≤ n) (n1 : n < 12) (hn : D 16 n = 0) : cm_x 84 0 [some (.inr (.inr 15)), some (.inl (n))] [] (cm_hp D X) = some (.inl none, cm_hp (bfD D n) X) := by
  have hf := (frV_f n0 n1 hn).1
  have e : cm_u1 (D 16) n (frV D) n = frV D := if_pos rfl
  rw [sg_X6_beginFile_0, ev_free n0 n1 hn, aft_v, sg_X6_beginFile_9, ck_t (by omega), ck_t (by omega), e, ck_t (by omega)]
  rfl
theorem ev_mBegin (he : ∀ v, 1 ≤ v → mNm (E 617) v = cNm D v) {n : Int} (n0 : 0 ≤ n) (n1 : n < 12) (hn : D 16 n = 0) : cm_x 241 0 [some (.inr (.inr 613)), some (.inl (n)), none] [] (cm_hp E X) = some (.inl none, cm_hp (cm_ua E 617 (bfM (E 617) n (frV D))) X) := by
  have hf := (frV_f n0 n1 hn).1
  have e0 : cm_wr (0 + n) = n := by rw [Int.zero_add]; exact cm_wr_id (by omega) (by omega)
  have e1 : cm_wr (12 + n) = 12 + n := cm_wr_id (by omega) (by omega)
  have e2 : cm_wr (228 + frV D) = 228 + frV D := cm_wr_id (by omega) (by omega)
  rw [sg_X9_beginFile_0, ev_mFree he n0 n1 hn, aft_v, sg_X9_beginFile_4, e0, e1, e2, ck_t (by omega), ck_t (by omega), ck_t (by omega)]
  have e : cm_up (cm_up (cm_up (cm_up E 617 n (frV D)) 617 (12 + n) 0) 617 (228 + frV D) (-1)) 617 241 1 = cm_ua E 617 (bfM (E 617) n (frV D)) := by
    funext a j
    unfold bfM
    simp only [up_at, ua_at, u1_at]
    by_cases ha : a = 617
    · simp only [ha, true_and, if_true]
    · simp only [ha, false_and, if_false]
  rw [e]
/-- as wS, but the file n may be unchanged and not written -/
def wSx (n pk : Int) (K B : Int → Int) (S : Nat → Int → Int) : Prop := (nS S ∧ i32 (S 0 10)) ∧ 0 ≤ S 0 9 ∧ mpO K pk (S 0 9) (S 0 7) ∧ (∀ n c, 0 ≤ n → n < 12 → 0 ≤ c → c < S 2 n → S 4 (n * 8 + c) = -1 ∨ ((0 ≤ S 4 (n * 8 + c) ∧ S 4 (n * 8 + c) < S 0 9) ∧ K (S 4 (n * 8 + c)) = 3)) ∧ (∀ v, 1 ≤ v → v < 13 → S 6 v = -1 ∨ entOk K B (S 6 v) (S 0 9)) ∧ (S 6 0 = -1 ∨ dirOk K B (S 6 0) (S 0 9)) ∧ (S 0 6 = 0 → (S 6 0 = -1 → ∀ n, 0 ≤ n → n < 12 → S 1 n = 0) ∧ (S 6 0 ≠ -1 → ∀ n, 0 ≤ n → n < 12 → B (15 * S 6 0 + n) = (if S 1 n = 0 then -1 else S 1 n))) ∧ ∀ m, 0 ≤ m → m < 12 → m ≠ n → S 1 m ≠ 0 → S 3 m = 0 → S 6 (S 1 m) ≠ -1
theorem wS_x {S : Nat → Int → Int} (hw : wS pk K B S) (n : Int) : wSx n pk K B S := ⟨⟨hw.1, hw.2.2⟩, hw.2.1.1, hw.2.1.2.1, hw.2.1.2.2.1, hw.2.1.2.2.2.1, hw.2.1.2.2.2.2.1, hw.2.1.2.2.2.2.2.1, fun m m0 m1 _ => hw.2.1.2.2.2.2.2.2 m m0 m1⟩
theorem bf_R (hr : rS (stt D 15) r) (hw : wS pk K B (stt D 15)) {n : Int} (n0 : 0 ≤ n) (n1 : n < 12) (hn : D 16 n = 0) : rS (stt (bfD D n) 15) (bfM r n (frV D)) ∧ wSx n pk K B (stt (bfD D n) 15) := by
  obtain ⟨⟨f1, f2⟩, f3, -⟩ := frV_f n0 n1 hn
  have hfree : ∀ m, 0 ≤ m → m < 12 → D 16 m ≠ frV D := fun m m0 m1 hz => by
    have := cNm_f hw.1 m0 m1 hz (by omega)
    omega
  obtain ⟨r1, r2, r3, r4, r5, r6, r7, r8⟩ := hr
  obtain ⟨⟨s1, s2, s3⟩, ⟨v1, v2, v3, v4, v5, v6, v7⟩, hi⟩ := hw
  have q1 : stt (bfD D n) 15 1 = cm_u1 (D 16) n (frV D) := rfl
  have q2 : stt (bfD D n) 15 2 = D 17 := rfl
  have q3 : stt (bfD D n) 15 3 = D 18 := rfl
  have q4 : stt (bfD D n) 15 4 = D 19 := rfl
  have q5 : stt (bfD D n) 15 5 = D 20 := rfl
  have q6 : stt (bfD D n) 15 6 = cm_u1 (D 21) (frV D) (-1) := rfl
  have q0 : stt (bfD D n) 15 0 = cm_u1 (D 15) 6 1 := rfl
  have hd0 : D 17 n = 0 ∧ D 18 n = 0 := (s2 n n0 n1).2.2.2 hn
  have hv3 : ∀ m, 0 ≤ m → m < 12 → 0 ≤ D 16 m ∧ D 16 m ≤ 12 := fun m m0 m1 => (s2 m m0 m1).1
  constructor
  · unfold rS
    rw [q0, q1, q2, q3, q4, q5, q6]
    unfold bfM
    refine ⟨fun m m0 m1 => ?_, fun m c m0 m1 c0 c1 => ?_, fun v v0 v1 => ?_, ?_, ?_, ?_, ?_, ?_⟩
    · have h1 : r m = (if D 16 m = 0 then -1 else D 16 m) := (r1 m m0 m1).1
      have h2 : r (12 + m) = D 17 m := (r1 m m0 m1).2.1
      have h3 : r (24 + m) = D 18 m := (r1 m m0 m1).2.2
      by_cases hm : m = n
      · subst hm
        simp (disch := omega) only [u1_ne, u1_eq]
        refine ⟨?_, hd0.1.symm, h3⟩
        rw [if_neg (by omega)]
      · simp (disch := omega) only [u1_ne]
        exact ⟨h1, h2, h3⟩
    · have hl : D 17 m ≤ 8 := (s2 m m0 m1).2.1.2
      simp (disch := omega) only [u1_ne]
      exact r2 m c m0 m1 c0 c1
    · have h1 : r (228 + v) = D 21 v := r3 v v0 v1
      by_cases hv : v = frV D
      · subst hv
        simp (disch := omega) only [u1_ne, u1_eq]
      · simp (disch := omega) only [u1_ne]
        exact h1
    · rw [u1_eq, u1_eq]
    · simp (disch := omega) only [u1_ne]; exact r5
    · simp (disch := omega) only [u1_ne]; exact r6
    · simp (disch := omega) only [u1_ne]; exact r7
    · simp (disch := omega) only [u1_ne]; exact r8
  · unfold wSx nS
    rw [q0, q1, q2, q3, q4, q6]
    have e9 : cm_u1 (D 15) 6 1 9 = D 15 9 := rfl
    have e7 : cm_u1 (D 15) 6 1 7 = D 15 7 := rfl
    have e10 : cm_u1 (D 15) 6 1 10 = D 15 10 := rfl
    have e6 : cm_u1 (D 15) 6 1 6 = 1 := rfl
    have e60 : cm_u1 (D 21) (frV D) (-1) 0 = D 21 0 := u1_ne (by omega)
    rw [e9, e7, e10, e6, e60]
    refine ⟨⟨⟨Or.inr rfl, fun m m0 m1 => ?_, fun m k m0 m1 k0 k1 => ?_⟩, hi⟩, v1, v2, v3, fun v v0 v1 => ?_, v5, fun z => absurd z (by omega), fun m m0 m1 hm => ?_⟩
    · obtain ⟨t1, t2, t3, t4⟩ := s2 m m0 m1
      by_cases hm : m = n
      · subst hm
        rw [u1_eq]; exact ⟨by omega, t2, t3, fun z => by omega⟩
      · rw [u1_ne hm]; exact ⟨t1, t2, t3, t4⟩
    · have hm1 := hfree m m0 m1
      have hk1 := hfree k k0 k1
      by_cases hm : m = n
      · by_cases hk : k = n
        · intro _ _; omega
        · rw [hm, u1_eq, u1_ne hk]; intro z; exact absurd z.symm hk1
      · by_cases hk : k = n
        · rw [hk, u1_eq, u1_ne hm]; intro z; exact absurd z hm1
        · rw [u1_ne hm, u1_ne hk]; exact s3 m k m0 m1 k0 k1
    · by_cases hv : v = frV D
      · rw [hv, u1_eq]; exact Or.inl rfl
      · rw [u1_ne hv]; exact v4 v v0 v1
    · have hm1 := hfree m m0 m1
      rw [u1_ne hm, u1_ne hm1]
      exact v7 m m0 m1
