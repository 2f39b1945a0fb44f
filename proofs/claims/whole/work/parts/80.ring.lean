/-! a State is copied; acts are kept, taken back: the addresses vary, so step by step -/
variable {D : Nat → Int → Int} {X : cm_X}
/-- a State begins there -/
def isT (a : Nat) : Prop := (∀ L, cm_K0 L a = (0, 6) ∧ cm_K0 L (a + 1) = (1, 12) ∧ cm_K0 L (a + 2) = (1, 12) ∧ cm_K0 L (a + 3) = (2, 12) ∧ cm_K0 L (a + 4) = (1, 96) ∧ cm_K0 L (a + 5) = (1, 96) ∧ cm_K0 L (a + 6) = (1, 13)) ∧ cm_R0 a = cm_rS a ∧ a + 7 ≤ 634
theorem isT_28 {k : Nat} (hk : k < 40) : isT (28 + 7 * k) := by
  refine ⟨fun L => ?_, ?_, by omega⟩
  · unfold cm_K0
    refine ⟨?_, ?_, ?_, ?_, ?_, ?_, ?_⟩
    · rw [if_neg (by omega), if_pos (by omega), show (28 + 7 * k - 28) % 7 = 0 by omega]; rfl
    · rw [if_neg (by omega), if_pos (by omega), show (28 + 7 * k + 1 - 28) % 7 = 1 by omega]; rfl
    · rw [if_neg (by omega), if_pos (by omega), show (28 + 7 * k + 2 - 28) % 7 = 2 by omega]; rfl
    · rw [if_neg (by omega), if_pos (by omega), show (28 + 7 * k + 3 - 28) % 7 = 3 by omega]; rfl
    · rw [if_neg (by omega), if_pos (by omega), show (28 + 7 * k + 4 - 28) % 7 = 4 by omega]; rfl
    · rw [if_neg (by omega), if_pos (by omega), show (28 + 7 * k + 5 - 28) % 7 = 5 by omega]; rfl
    · rw [if_neg (by omega), if_pos (by omega), show (28 + 7 * k + 6 - 28) % 7 = 6 by omega]; rfl
  · unfold cm_R0
    rw [if_neg (by omega), if_pos (by omega), if_pos (by omega)]
theorem isT_324 {k : Nat} (hk : k < 40) : isT (324 + 7 * k) := by
  refine ⟨fun L => ?_, ?_, by omega⟩
  · unfold cm_K0
    refine ⟨?_, ?_, ?_, ?_, ?_, ?_, ?_⟩
    · rw [if_neg (by omega), if_neg (by omega), if_neg (by omega), if_pos (by omega), show (324 + 7 * k - 324) % 7 = 0 by omega]; rfl
    · rw [if_neg (by omega), if_neg (by omega), if_neg (by omega), if_pos (by omega), show (324 + 7 * k + 1 - 324) % 7 = 1 by omega]; rfl
    · rw [if_neg (by omega), if_neg (by omega), if_neg (by omega), if_pos (by omega), show (324 + 7 * k + 2 - 324) % 7 = 2 by omega]; rfl
    · rw [if_neg (by omega), if_neg (by omega), if_neg (by omega), if_pos (by omega), show (324 + 7 * k + 3 - 324) % 7 = 3 by omega]; rfl
    · rw [if_neg (by omega), if_neg (by omega), if_neg (by omega), if_pos (by omega), show (324 + 7 * k + 4 - 324) % 7 = 4 by omega]; rfl
    · rw [if_neg (by omega), if_neg (by omega), if_neg (by omega), if_pos (by omega), show (324 + 7 * k + 5 - 324) % 7 = 5 by omega]; rfl
    · rw [if_neg (by omega), if_neg (by omega), if_neg (by omega), if_pos (by omega), show (324 + 7 * k + 6 - 324) % 7 = 6 by omega]; rfl
  · unfold cm_R0
    rw [if_neg (by omega), if_neg (by omega), if_neg (by omega), if_pos (by omega), if_pos (by omega)]
theorem rF_rS {l : List Nat} {a : Nat} (h : l = [a + 1, a + 2, a + 3, a + 4, a + 5, a + 6]) : cm_rF l = cm_rS a := by
  subst h
  funext f
  unfold cm_rF cm_rS
  by_cases h0 : 0 ≤ f
  · rw [if_pos h0]
    by_cases h1 : f < 6
    · rw [if_pos ⟨h0, h1⟩]
      have hf : f = 0 ∨ f = 1 ∨ f = 2 ∨ f = 3 ∨ f = 4 ∨ f = 5 := by omega
      rcases hf with rfl | rfl | rfl | rfl | rfl | rfl <;> rfl
    · rw [if_neg (by omega)]
      obtain ⟨k, hk⟩ : ∃ k : Nat, f.toNat = k + 6 := ⟨f.toNat - 6, by omega⟩
      rw [hk]
      rfl
  · rw [if_neg h0, if_neg (by omega)]
theorem isT_15 : isT 15 := ⟨fun _ => ⟨rfl, rfl, rfl, rfl, rfl, rfl, rfl⟩, rF_rS (l := [16, 17, 18, 19, 20, 21]) rfl, by omega⟩
theorem isT_315 : isT 315 := ⟨fun _ => ⟨rfl, rfl, rfl, rfl, rfl, rfl, rfl⟩, rF_rS (l := [316, 317, 318, 319, 320, 321]) rfl, by omega⟩
theorem isT_604 : isT 604 := ⟨fun _ => ⟨rfl, rfl, rfl, rfl, rfl, rfl, rfl⟩, rF_rS (l := [605, 606, 607, 608, 609, 610]) rfl, by omega⟩
theorem kd_T {a : Nat} (ha : isT a) : cm_kd (cm_hp D X) a 0 6 = true := by
  have e : (cm_hp D X).1 a = (0, 6) := (ha.1 _).1
  unfold cm_kd
  rw [e]
  rfl
theorem gf_0 {a : Nat} (ha : isT a) (st : List cm_V) (k : List cm_V → cm_R) : cm_gf (cm_hp D X) 2 6 0 (.inr (.inr a) :: st) k = k (.inr (.inr (a + 1)) :: st) := by
  have hk := kd_T (D := D) (X := X) ha
  have hr : (cm_hp D X).2.1 a ((0 : Nat) : Int) = a + 1 := by
    show cm_R0 a ((0 : Nat) : Int) = _
    rw [ha.2.1]
    rfl
  have hb : (a + 1).blt 300000 = true := by
    have := ha.2.2
    simp only [Nat.blt, Nat.ble_eq]
    omega
  unfold cm_gf
  simp only [hk, hr, hb]
theorem gf_1 {a : Nat} (ha : isT a) (st : List cm_V) (k : List cm_V → cm_R) : cm_gf (cm_hp D X) 2 6 1 (.inr (.inr a) :: st) k = k (.inr (.inr (a + 2)) :: st) := by
  have hk := kd_T (D := D) (X := X) ha
  have hr : (cm_hp D X).2.1 a ((1 : Nat) : Int) = a + 2 := by
    show cm_R0 a ((1 : Nat) : Int) = _
    rw [ha.2.1]
    rfl
  have hb : (a + 2).blt 300000 = true := by
    have := ha.2.2
    simp only [Nat.blt, Nat.ble_eq]
    omega
  unfold cm_gf
  simp only [hk, hr, hb]
theorem gf_2 {a : Nat} (ha : isT a) (st : List cm_V) (k : List cm_V → cm_R) : cm_gf (cm_hp D X) 2 6 2 (.inr (.inr a) :: st) k = k (.inr (.inr (a + 3)) :: st) := by
  have hk := kd_T (D := D) (X := X) ha
  have hr : (cm_hp D X).2.1 a ((2 : Nat) : Int) = a + 3 := by
    show cm_R0 a ((2 : Nat) : Int) = _
    rw [ha.2.1]
    rfl
  have hb : (a + 3).blt 300000 = true := by
    have := ha.2.2
    simp only [Nat.blt, Nat.ble_eq]
    omega
  unfold cm_gf
  simp only [hk, hr, hb]
theorem gf_3 {a : Nat} (ha : isT a) (st : List cm_V) (k : List cm_V → cm_R) : cm_gf (cm_hp D X) 2 6 3 (.inr (.inr a) :: st) k = k (.inr (.inr (a + 4)) :: st) := by
  have hk := kd_T (D := D) (X := X) ha
  have hr : (cm_hp D X).2.1 a ((3 : Nat) : Int) = a + 4 := by
    show cm_R0 a ((3 : Nat) : Int) = _
    rw [ha.2.1]
    rfl
  have hb : (a + 4).blt 300000 = true := by
    have := ha.2.2
    simp only [Nat.blt, Nat.ble_eq]
    omega
  unfold cm_gf
  simp only [hk, hr, hb]
theorem gf_4 {a : Nat} (ha : isT a) (st : List cm_V) (k : List cm_V → cm_R) : cm_gf (cm_hp D X) 2 6 4 (.inr (.inr a) :: st) k = k (.inr (.inr (a + 5)) :: st) := by
  have hk := kd_T (D := D) (X := X) ha
  have hr : (cm_hp D X).2.1 a ((4 : Nat) : Int) = a + 5 := by
    show cm_R0 a ((4 : Nat) : Int) = _
    rw [ha.2.1]
    rfl
  have hb : (a + 5).blt 300000 = true := by
    have := ha.2.2
    simp only [Nat.blt, Nat.ble_eq]
    omega
  unfold cm_gf
  simp only [hk, hr, hb]
theorem gf_5 {a : Nat} (ha : isT a) (st : List cm_V) (k : List cm_V → cm_R) : cm_gf (cm_hp D X) 2 6 5 (.inr (.inr a) :: st) k = k (.inr (.inr (a + 6)) :: st) := by
  have hk := kd_T (D := D) (X := X) ha
  have hr : (cm_hp D X).2.1 a ((5 : Nat) : Int) = a + 6 := by
    show cm_R0 a ((5 : Nat) : Int) = _
    rw [ha.2.1]
    rfl
  have hb : (a + 6).blt 300000 = true := by
    have := ha.2.2
    simp only [Nat.blt, Nat.ble_eq]
    omega
  unfold cm_gf
  simp only [hk, hr, hb]
theorem gi_6 {a : Nat} (ha : isT a) (st : List cm_V) (k : List cm_V → cm_R) : cm_gf (cm_hp D X) 1 6 6 (.inr (.inr a) :: st) k = k (.inl (D a 6) :: st) := by
  have hk := kd_T (D := D) (X := X) ha
  unfold cm_gf
  simp only [hk]
  rfl
theorem pf_6 {a : Nat} (ha : isT a) (v : Int) (st : List cm_V) (k : List cm_V → cm_H → cm_R) : cm_pf (cm_hp D X) 1 6 6 (.inl v :: .inr (.inr a) :: st) k = cm_ck (v = 0 ∨ v = 1) (k st (cm_hp (cm_up D a 6 v) X)) := by
  have hk := kd_T (D := D) (X := X) ha
  unfold cm_pf
  simp only [hk]
  rfl
theorem gi_7 {a : Nat} (ha : isT a) (st : List cm_V) (k : List cm_V → cm_R) : cm_gf (cm_hp D X) 0 6 7 (.inr (.inr a) :: st) k = k (.inl (D a 7) :: st) := by
  have hk := kd_T (D := D) (X := X) ha
  unfold cm_gf
  simp only [hk]
  rfl
theorem pf_7 {a : Nat} (ha : isT a) (v : Int) (st : List cm_V) (k : List cm_V → cm_H → cm_R) : cm_pf (cm_hp D X) 0 6 7 (.inl v :: .inr (.inr a) :: st) k = k st (cm_hp (cm_up D a 7 v) X) := by
  have hk := kd_T (D := D) (X := X) ha
  unfold cm_pf
  simp only [hk]
  rfl
theorem gi_8 {a : Nat} (ha : isT a) (st : List cm_V) (k : List cm_V → cm_R) : cm_gf (cm_hp D X) 0 6 8 (.inr (.inr a) :: st) k = k (.inl (D a 8) :: st) := by
  have hk := kd_T (D := D) (X := X) ha
  unfold cm_gf
  simp only [hk]
  rfl
theorem pf_8 {a : Nat} (ha : isT a) (v : Int) (st : List cm_V) (k : List cm_V → cm_H → cm_R) : cm_pf (cm_hp D X) 0 6 8 (.inl v :: .inr (.inr a) :: st) k = k st (cm_hp (cm_up D a 8 v) X) := by
  have hk := kd_T (D := D) (X := X) ha
  unfold cm_pf
  simp only [hk]
  rfl
theorem gi_9 {a : Nat} (ha : isT a) (st : List cm_V) (k : List cm_V → cm_R) : cm_gf (cm_hp D X) 0 6 9 (.inr (.inr a) :: st) k = k (.inl (D a 9) :: st) := by
  have hk := kd_T (D := D) (X := X) ha
  unfold cm_gf
  simp only [hk]
  rfl
theorem pf_9 {a : Nat} (ha : isT a) (v : Int) (st : List cm_V) (k : List cm_V → cm_H → cm_R) : cm_pf (cm_hp D X) 0 6 9 (.inl v :: .inr (.inr a) :: st) k = k st (cm_hp (cm_up D a 9 v) X) := by
  have hk := kd_T (D := D) (X := X) ha
  unfold cm_pf
  simp only [hk]
  rfl
theorem gi_10 {a : Nat} (ha : isT a) (st : List cm_V) (k : List cm_V → cm_R) : cm_gf (cm_hp D X) 0 6 10 (.inr (.inr a) :: st) k = k (.inl (D a 10) :: st) := by
  have hk := kd_T (D := D) (X := X) ha
  unfold cm_gf
  simp only [hk]
  rfl
theorem pf_10 {a : Nat} (ha : isT a) (v : Int) (st : List cm_V) (k : List cm_V → cm_H → cm_R) : cm_pf (cm_hp D X) 0 6 10 (.inl v :: .inr (.inr a) :: st) k = k st (cm_hp (cm_up D a 10 v) X) := by
  have hk := kd_T (D := D) (X := X) ha
  unfold cm_pf
  simp only [hk]
  rfl
theorem cpy_r {x y : Nat} {N M : Nat} (hx : ∀ L, cm_K0 L x = (1, N)) (hy : ∀ L, cm_K0 L y = (1, M)) (x1 : x < 634) (y1 : y < 634) {n : Int} (n0 : 0 ≤ n) (n1 : n ≤ N) (n2 : n ≤ M) (k : List cm_V → cm_H → cm_R) : cm_cpy (cm_hp D X) [.inl n, .inl 0, .inr (.inr x), .inl 0, .inr (.inr y)] k = k [] (cm_hp (cm_ua D x (cm_cp (D y) (D x) 0 0 n)) X) := by
  have ex : (cm_hp D X).1 x = (1, N) := hx _
  have ey : (cm_hp D X).1 y = (1, M) := hy _
  have bx : x.blt 634 = true := by simp only [Nat.blt, Nat.ble_eq]; omega
  have bY : y.blt 634 = true := by simp only [Nat.blt, Nat.ble_eq]; omega
  have eb : ((((cm_hp D X).1 x).1 == 1) && ((((cm_hp D X).1 y).1 == 1) && (x.blt (cm_hp D X).2.2.2.2.1 && y.blt (cm_hp D X).2.2.2.2.1))) = true := by
    rw [ex, ey]
    show (true && (true && (x.blt 634 && y.blt 634))) = true
    rw [bx, bY]
    rfl
  unfold cm_cpy
  simp only [eb]
  rw [ck_t]
  · rfl
  · rw [ex, ey]
    show ((0 : Int) ≤ n ∧ (0 : Int) ≤ 0 ∧ (0 : Int) ≤ 0) ∧ 0 + n ≤ (M : Int) ∧ 0 + n ≤ (N : Int)
    omega
theorem al_r {x : Nat} (hx : ∀ L, cm_K0 L x = (2, 12)) {i : Int} (i0 : 0 ≤ i) (i1 : i < 12) (st : List cm_V) (k : List cm_V → cm_R) : cm_al (cm_hp D X) 2 (.inl i :: .inr (.inr x) :: st) k = k (.inl (D x i) :: st) := by
  have ex : (cm_hp D X).1 x = (2, 12) := hx _
  have eb : (((cm_hp D X).1 x).1 == 2) = true := by rw [ex]; rfl
  unfold cm_al
  simp only [eb]
  rw [ck_t]
  · rfl
  · rw [ex]
    show 0 ≤ i ∧ i < ((12 : Nat) : Int)
    omega
theorem as_r {x : Nat} (hx : ∀ L, cm_K0 L x = (2, 12)) (x1 : x < 634) {i : Int} (i0 : 0 ≤ i) (i1 : i < 12) (v : Int) (st : List cm_V) (k : List cm_V → cm_H → cm_R) : cm_as (cm_hp D X) 2 (.inl v :: .inl i :: .inr (.inr x) :: st) k = k st (cm_hp (cm_up D x i (v % 2)) X) := by
  have ex : (cm_hp D X).1 x = (2, 12) := hx _
  have bx : x.blt 634 = true := by simp only [Nat.blt, Nat.ble_eq]; omega
  have eb : ((((cm_hp D X).1 x).1 == 2) && x.blt (cm_hp D X).2.2.2.2.1) = true := by
    rw [ex]
    show (true && x.blt 634) = true
    rw [bx]
    rfl
  unfold cm_as
  simp only [eb]
  rw [ck_t]
  · rfl
  · rw [ex]
    show 0 ≤ i ∧ i < ((12 : Nat) : Int)
    omega
set_option maxRecDepth 100000 in
theorem h62_0 (a b : Nat) (x : Option cm_V) (st : List cm_V) (h : cm_H) : cm_x 62 0 [some (.inr (.inr a)), some (.inr (.inr b)), x] st h = cm_x 62 1 [some (.inr (.inr a)), some (.inr (.inr b)), x] (.inr (.inr b) :: st) h := (cm_x_eq _ _ _ _ _).trans rfl
set_option maxRecDepth 100000 in
theorem h62_1 (a b : Nat) (x : Option cm_V) (st : List cm_V) (h : cm_H) : cm_x 62 1 [some (.inr (.inr a)), some (.inr (.inr b)), x] st h = cm_gf h 2 6 0 st (fun st => cm_x 62 4 [some (.inr (.inr a)), some (.inr (.inr b)), x] st h) := (cm_x_eq _ _ _ _ _).trans rfl
set_option maxRecDepth 100000 in
theorem h62_4 (a b : Nat) (x : Option cm_V) (st : List cm_V) (h : cm_H) : cm_x 62 4 [some (.inr (.inr a)), some (.inr (.inr b)), x] st h = cm_x 62 5 [some (.inr (.inr a)), some (.inr (.inr b)), x] (.inl 0 :: st) h := (cm_x_eq _ _ _ _ _).trans rfl
set_option maxRecDepth 100000 in
theorem h62_5 (a b : Nat) (x : Option cm_V) (st : List cm_V) (h : cm_H) : cm_x 62 5 [some (.inr (.inr a)), some (.inr (.inr b)), x] st h = cm_x 62 6 [some (.inr (.inr a)), some (.inr (.inr b)), x] (.inr (.inr a) :: st) h := (cm_x_eq _ _ _ _ _).trans rfl
set_option maxRecDepth 100000 in
theorem h62_6 (a b : Nat) (x : Option cm_V) (st : List cm_V) (h : cm_H) : cm_x 62 6 [some (.inr (.inr a)), some (.inr (.inr b)), x] st h = cm_gf h 2 6 0 st (fun st => cm_x 62 9 [some (.inr (.inr a)), some (.inr (.inr b)), x] st h) := (cm_x_eq _ _ _ _ _).trans rfl
set_option maxRecDepth 100000 in
theorem h62_9 (a b : Nat) (x : Option cm_V) (st : List cm_V) (h : cm_H) : cm_x 62 9 [some (.inr (.inr a)), some (.inr (.inr b)), x] st h = cm_x 62 10 [some (.inr (.inr a)), some (.inr (.inr b)), x] (.inl 0 :: st) h := (cm_x_eq _ _ _ _ _).trans rfl
set_option maxRecDepth 100000 in
theorem h62_10 (a b : Nat) (x : Option cm_V) (st : List cm_V) (h : cm_H) : cm_x 62 10 [some (.inr (.inr a)), some (.inr (.inr b)), x] st h = cm_x 62 12 [some (.inr (.inr a)), some (.inr (.inr b)), x] (.inl 12 :: st) h := (cm_x_eq _ _ _ _ _).trans rfl
set_option maxRecDepth 100000 in
theorem h62_12 (a b p q : Nat) (x : Option cm_V) (n : Int) (h : cm_H) : cm_x 62 12 [some (.inr (.inr a)), some (.inr (.inr b)), x] [.inl n, .inl 0, .inr (.inr p), .inl 0, .inr (.inr q)] h = cm_cpy h [.inl n, .inl 0, .inr (.inr p), .inl 0, .inr (.inr q)] (fun st h => cm_x 62 15 [some (.inr (.inr a)), some (.inr (.inr b)), x] st h) := (cm_x_eq _ _ _ _ _).trans rfl
set_option maxRecDepth 100000 in
theorem h62_15 (a b : Nat) (x : Option cm_V) (st : List cm_V) (h : cm_H) : cm_x 62 15 [some (.inr (.inr a)), some (.inr (.inr b)), x] st h = cm_x 62 16 [some (.inr (.inr a)), some (.inr (.inr b)), x] (.inr (.inr b) :: st) h := (cm_x_eq _ _ _ _ _).trans rfl
set_option maxRecDepth 100000 in
theorem h62_16 (a b : Nat) (x : Option cm_V) (st : List cm_V) (h : cm_H) : cm_x 62 16 [some (.inr (.inr a)), some (.inr (.inr b)), x] st h = cm_gf h 2 6 1 st (fun st => cm_x 62 19 [some (.inr (.inr a)), some (.inr (.inr b)), x] st h) := (cm_x_eq _ _ _ _ _).trans rfl
set_option maxRecDepth 100000 in
theorem h62_19 (a b : Nat) (x : Option cm_V) (st : List cm_V) (h : cm_H) : cm_x 62 19 [some (.inr (.inr a)), some (.inr (.inr b)), x] st h = cm_x 62 20 [some (.inr (.inr a)), some (.inr (.inr b)), x] (.inl 0 :: st) h := (cm_x_eq _ _ _ _ _).trans rfl
set_option maxRecDepth 100000 in
theorem h62_20 (a b : Nat) (x : Option cm_V) (st : List cm_V) (h : cm_H) : cm_x 62 20 [some (.inr (.inr a)), some (.inr (.inr b)), x] st h = cm_x 62 21 [some (.inr (.inr a)), some (.inr (.inr b)), x] (.inr (.inr a) :: st) h := (cm_x_eq _ _ _ _ _).trans rfl
set_option maxRecDepth 100000 in
theorem h62_21 (a b : Nat) (x : Option cm_V) (st : List cm_V) (h : cm_H) : cm_x 62 21 [some (.inr (.inr a)), some (.inr (.inr b)), x] st h = cm_gf h 2 6 1 st (fun st => cm_x 62 24 [some (.inr (.inr a)), some (.inr (.inr b)), x] st h) := (cm_x_eq _ _ _ _ _).trans rfl
set_option maxRecDepth 100000 in
theorem h62_24 (a b : Nat) (x : Option cm_V) (st : List cm_V) (h : cm_H) : cm_x 62 24 [some (.inr (.inr a)), some (.inr (.inr b)), x] st h = cm_x 62 25 [some (.inr (.inr a)), some (.inr (.inr b)), x] (.inl 0 :: st) h := (cm_x_eq _ _ _ _ _).trans rfl
set_option maxRecDepth 100000 in
theorem h62_25 (a b : Nat) (x : Option cm_V) (st : List cm_V) (h : cm_H) : cm_x 62 25 [some (.inr (.inr a)), some (.inr (.inr b)), x] st h = cm_x 62 27 [some (.inr (.inr a)), some (.inr (.inr b)), x] (.inl 12 :: st) h := (cm_x_eq _ _ _ _ _).trans rfl
set_option maxRecDepth 100000 in
theorem h62_27 (a b p q : Nat) (x : Option cm_V) (n : Int) (h : cm_H) : cm_x 62 27 [some (.inr (.inr a)), some (.inr (.inr b)), x] [.inl n, .inl 0, .inr (.inr p), .inl 0, .inr (.inr q)] h = cm_cpy h [.inl n, .inl 0, .inr (.inr p), .inl 0, .inr (.inr q)] (fun st h => cm_x 62 30 [some (.inr (.inr a)), some (.inr (.inr b)), x] st h) := (cm_x_eq _ _ _ _ _).trans rfl
set_option maxRecDepth 100000 in
theorem h62_30 (a b : Nat) (x : Option cm_V) (st : List cm_V) (h : cm_H) : cm_x 62 30 [some (.inr (.inr a)), some (.inr (.inr b)), x] st h = cm_x 62 31 [some (.inr (.inr a)), some (.inr (.inr b)), x] (.inl 0 :: st) h := (cm_x_eq _ _ _ _ _).trans rfl
set_option maxRecDepth 100000 in
theorem h62_31 (a b : Nat) (v : Int) (st : List cm_V) (h : cm_H) : cm_x 62 31 [some (.inr (.inr a)), some (.inr (.inr b)), none] (.inl v :: st) h = cm_x 62 32 [some (.inr (.inr a)), some (.inr (.inr b)), some (.inl v)] st h := (cm_x_eq _ _ _ _ _).trans rfl
set_option maxRecDepth 100000 in
theorem h62_32 (a b : Nat) (v : Int) (st : List cm_V) (h : cm_H) : cm_x 62 32 [some (.inr (.inr a)), some (.inr (.inr b)), some (.inl v)] st h = cm_x 62 33 [some (.inr (.inr a)), some (.inr (.inr b)), some (.inl v)] (.inl v :: st) h := (cm_x_eq _ _ _ _ _).trans rfl
set_option maxRecDepth 100000 in
theorem h62_33 (a b : Nat) (x : Option cm_V) (st : List cm_V) (h : cm_H) : cm_x 62 33 [some (.inr (.inr a)), some (.inr (.inr b)), x] st h = cm_x 62 35 [some (.inr (.inr a)), some (.inr (.inr b)), x] (.inl 12 :: st) h := (cm_x_eq _ _ _ _ _).trans rfl
set_option maxRecDepth 100000 in
theorem h62_35 (a b : Nat) (x : Option cm_V) (p q : Int) (st : List cm_V) (h : cm_H) : cm_x 62 35 [some (.inr (.inr a)), some (.inr (.inr b)), x] (.inl q :: .inl p :: st) h = (if p < q then cm_x 62 38 [some (.inr (.inr a)), some (.inr (.inr b)), x] st h else cm_x 62 56 [some (.inr (.inr a)), some (.inr (.inr b)), x] st h) := (cm_x_eq _ _ _ _ _).trans rfl
set_option maxRecDepth 100000 in
theorem h62_38 (a b : Nat) (x : Option cm_V) (st : List cm_V) (h : cm_H) : cm_x 62 38 [some (.inr (.inr a)), some (.inr (.inr b)), x] st h = cm_x 62 39 [some (.inr (.inr a)), some (.inr (.inr b)), x] (.inr (.inr a) :: st) h := (cm_x_eq _ _ _ _ _).trans rfl
set_option maxRecDepth 100000 in
theorem h62_39 (a b : Nat) (x : Option cm_V) (st : List cm_V) (h : cm_H) : cm_x 62 39 [some (.inr (.inr a)), some (.inr (.inr b)), x] st h = cm_gf h 2 6 2 st (fun st => cm_x 62 42 [some (.inr (.inr a)), some (.inr (.inr b)), x] st h) := (cm_x_eq _ _ _ _ _).trans rfl
set_option maxRecDepth 100000 in
theorem h62_42 (a b : Nat) (v : Int) (st : List cm_V) (h : cm_H) : cm_x 62 42 [some (.inr (.inr a)), some (.inr (.inr b)), some (.inl v)] st h = cm_x 62 43 [some (.inr (.inr a)), some (.inr (.inr b)), some (.inl v)] (.inl v :: st) h := (cm_x_eq _ _ _ _ _).trans rfl
set_option maxRecDepth 100000 in
theorem h62_43 (a b : Nat) (x : Option cm_V) (st : List cm_V) (h : cm_H) : cm_x 62 43 [some (.inr (.inr a)), some (.inr (.inr b)), x] st h = cm_x 62 44 [some (.inr (.inr a)), some (.inr (.inr b)), x] (.inr (.inr b) :: st) h := (cm_x_eq _ _ _ _ _).trans rfl
set_option maxRecDepth 100000 in
theorem h62_44 (a b : Nat) (x : Option cm_V) (st : List cm_V) (h : cm_H) : cm_x 62 44 [some (.inr (.inr a)), some (.inr (.inr b)), x] st h = cm_gf h 2 6 2 st (fun st => cm_x 62 47 [some (.inr (.inr a)), some (.inr (.inr b)), x] st h) := (cm_x_eq _ _ _ _ _).trans rfl
set_option maxRecDepth 100000 in
theorem h62_47 (a b : Nat) (v : Int) (st : List cm_V) (h : cm_H) : cm_x 62 47 [some (.inr (.inr a)), some (.inr (.inr b)), some (.inl v)] st h = cm_x 62 48 [some (.inr (.inr a)), some (.inr (.inr b)), some (.inl v)] (.inl v :: st) h := (cm_x_eq _ _ _ _ _).trans rfl
set_option maxRecDepth 100000 in
theorem h62_48 (a b : Nat) (x : Option cm_V) (st : List cm_V) (h : cm_H) : cm_x 62 48 [some (.inr (.inr a)), some (.inr (.inr b)), x] st h = cm_al h 2 st (fun st => cm_x 62 49 [some (.inr (.inr a)), some (.inr (.inr b)), x] st h) := (cm_x_eq _ _ _ _ _).trans rfl
set_option maxRecDepth 100000 in
theorem h62_49 (a b : Nat) (x : Option cm_V) (st : List cm_V) (h : cm_H) : cm_x 62 49 [some (.inr (.inr a)), some (.inr (.inr b)), x] st h = cm_as h 2 st (fun st h => cm_x 62 50 [some (.inr (.inr a)), some (.inr (.inr b)), x] st h) := (cm_x_eq _ _ _ _ _).trans rfl
set_option maxRecDepth 100000 in
theorem h62_50 (a b : Nat) (v : Int) (st : List cm_V) (h : cm_H) : cm_x 62 50 [some (.inr (.inr a)), some (.inr (.inr b)), some (.inl v)] st h = cm_x 62 53 [some (.inr (.inr a)), some (.inr (.inr b)), some (.inl (cm_wr (v + 1)))] st h := (cm_x_eq _ _ _ _ _).trans rfl
set_option maxRecDepth 100000 in
theorem h62_53 (a b : Nat) (v : Int) (st : List cm_V) (h : cm_H) : cm_x 62 53 [some (.inr (.inr a)), some (.inr (.inr b)), some (.inl v)] st h = cm_x 62 32 [some (.inr (.inr a)), some (.inr (.inr b)), some (.inl v)] st h := (cm_x_eq _ _ _ _ _).trans rfl
set_option maxRecDepth 100000 in
theorem h62_56 (a b : Nat) (x : Option cm_V) (st : List cm_V) (h : cm_H) : cm_x 62 56 [some (.inr (.inr a)), some (.inr (.inr b)), x] st h = cm_x 62 57 [some (.inr (.inr a)), some (.inr (.inr b)), x] (.inr (.inr b) :: st) h := (cm_x_eq _ _ _ _ _).trans rfl
set_option maxRecDepth 100000 in
theorem h62_57 (a b : Nat) (x : Option cm_V) (st : List cm_V) (h : cm_H) : cm_x 62 57 [some (.inr (.inr a)), some (.inr (.inr b)), x] st h = cm_gf h 2 6 3 st (fun st => cm_x 62 60 [some (.inr (.inr a)), some (.inr (.inr b)), x] st h) := (cm_x_eq _ _ _ _ _).trans rfl
set_option maxRecDepth 100000 in
theorem h62_60 (a b : Nat) (x : Option cm_V) (st : List cm_V) (h : cm_H) : cm_x 62 60 [some (.inr (.inr a)), some (.inr (.inr b)), x] st h = cm_x 62 61 [some (.inr (.inr a)), some (.inr (.inr b)), x] (.inl 0 :: st) h := (cm_x_eq _ _ _ _ _).trans rfl
set_option maxRecDepth 100000 in
theorem h62_61 (a b : Nat) (x : Option cm_V) (st : List cm_V) (h : cm_H) : cm_x 62 61 [some (.inr (.inr a)), some (.inr (.inr b)), x] st h = cm_x 62 62 [some (.inr (.inr a)), some (.inr (.inr b)), x] (.inr (.inr a) :: st) h := (cm_x_eq _ _ _ _ _).trans rfl
set_option maxRecDepth 100000 in
theorem h62_62 (a b : Nat) (x : Option cm_V) (st : List cm_V) (h : cm_H) : cm_x 62 62 [some (.inr (.inr a)), some (.inr (.inr b)), x] st h = cm_gf h 2 6 3 st (fun st => cm_x 62 65 [some (.inr (.inr a)), some (.inr (.inr b)), x] st h) := (cm_x_eq _ _ _ _ _).trans rfl
set_option maxRecDepth 100000 in
theorem h62_65 (a b : Nat) (x : Option cm_V) (st : List cm_V) (h : cm_H) : cm_x 62 65 [some (.inr (.inr a)), some (.inr (.inr b)), x] st h = cm_x 62 66 [some (.inr (.inr a)), some (.inr (.inr b)), x] (.inl 0 :: st) h := (cm_x_eq _ _ _ _ _).trans rfl
set_option maxRecDepth 100000 in
theorem h62_66 (a b : Nat) (x : Option cm_V) (st : List cm_V) (h : cm_H) : cm_x 62 66 [some (.inr (.inr a)), some (.inr (.inr b)), x] st h = cm_x 62 68 [some (.inr (.inr a)), some (.inr (.inr b)), x] (.inl 96 :: st) h := (cm_x_eq _ _ _ _ _).trans rfl
set_option maxRecDepth 100000 in
theorem h62_68 (a b p q : Nat) (x : Option cm_V) (n : Int) (h : cm_H) : cm_x 62 68 [some (.inr (.inr a)), some (.inr (.inr b)), x] [.inl n, .inl 0, .inr (.inr p), .inl 0, .inr (.inr q)] h = cm_cpy h [.inl n, .inl 0, .inr (.inr p), .inl 0, .inr (.inr q)] (fun st h => cm_x 62 71 [some (.inr (.inr a)), some (.inr (.inr b)), x] st h) := (cm_x_eq _ _ _ _ _).trans rfl
set_option maxRecDepth 100000 in
theorem h62_71 (a b : Nat) (x : Option cm_V) (st : List cm_V) (h : cm_H) : cm_x 62 71 [some (.inr (.inr a)), some (.inr (.inr b)), x] st h = cm_x 62 72 [some (.inr (.inr a)), some (.inr (.inr b)), x] (.inr (.inr b) :: st) h := (cm_x_eq _ _ _ _ _).trans rfl
set_option maxRecDepth 100000 in
theorem h62_72 (a b : Nat) (x : Option cm_V) (st : List cm_V) (h : cm_H) : cm_x 62 72 [some (.inr (.inr a)), some (.inr (.inr b)), x] st h = cm_gf h 2 6 4 st (fun st => cm_x 62 75 [some (.inr (.inr a)), some (.inr (.inr b)), x] st h) := (cm_x_eq _ _ _ _ _).trans rfl
set_option maxRecDepth 100000 in
theorem h62_75 (a b : Nat) (x : Option cm_V) (st : List cm_V) (h : cm_H) : cm_x 62 75 [some (.inr (.inr a)), some (.inr (.inr b)), x] st h = cm_x 62 76 [some (.inr (.inr a)), some (.inr (.inr b)), x] (.inl 0 :: st) h := (cm_x_eq _ _ _ _ _).trans rfl
set_option maxRecDepth 100000 in
theorem h62_76 (a b : Nat) (x : Option cm_V) (st : List cm_V) (h : cm_H) : cm_x 62 76 [some (.inr (.inr a)), some (.inr (.inr b)), x] st h = cm_x 62 77 [some (.inr (.inr a)), some (.inr (.inr b)), x] (.inr (.inr a) :: st) h := (cm_x_eq _ _ _ _ _).trans rfl
set_option maxRecDepth 100000 in
theorem h62_77 (a b : Nat) (x : Option cm_V) (st : List cm_V) (h : cm_H) : cm_x 62 77 [some (.inr (.inr a)), some (.inr (.inr b)), x] st h = cm_gf h 2 6 4 st (fun st => cm_x 62 80 [some (.inr (.inr a)), some (.inr (.inr b)), x] st h) := (cm_x_eq _ _ _ _ _).trans rfl
set_option maxRecDepth 100000 in
theorem h62_80 (a b : Nat) (x : Option cm_V) (st : List cm_V) (h : cm_H) : cm_x 62 80 [some (.inr (.inr a)), some (.inr (.inr b)), x] st h = cm_x 62 81 [some (.inr (.inr a)), some (.inr (.inr b)), x] (.inl 0 :: st) h := (cm_x_eq _ _ _ _ _).trans rfl
set_option maxRecDepth 100000 in
theorem h62_81 (a b : Nat) (x : Option cm_V) (st : List cm_V) (h : cm_H) : cm_x 62 81 [some (.inr (.inr a)), some (.inr (.inr b)), x] st h = cm_x 62 83 [some (.inr (.inr a)), some (.inr (.inr b)), x] (.inl 96 :: st) h := (cm_x_eq _ _ _ _ _).trans rfl
set_option maxRecDepth 100000 in
theorem h62_83 (a b p q : Nat) (x : Option cm_V) (n : Int) (h : cm_H) : cm_x 62 83 [some (.inr (.inr a)), some (.inr (.inr b)), x] [.inl n, .inl 0, .inr (.inr p), .inl 0, .inr (.inr q)] h = cm_cpy h [.inl n, .inl 0, .inr (.inr p), .inl 0, .inr (.inr q)] (fun st h => cm_x 62 86 [some (.inr (.inr a)), some (.inr (.inr b)), x] st h) := (cm_x_eq _ _ _ _ _).trans rfl
set_option maxRecDepth 100000 in
theorem h62_86 (a b : Nat) (x : Option cm_V) (st : List cm_V) (h : cm_H) : cm_x 62 86 [some (.inr (.inr a)), some (.inr (.inr b)), x] st h = cm_x 62 87 [some (.inr (.inr a)), some (.inr (.inr b)), x] (.inr (.inr b) :: st) h := (cm_x_eq _ _ _ _ _).trans rfl
set_option maxRecDepth 100000 in
theorem h62_87 (a b : Nat) (x : Option cm_V) (st : List cm_V) (h : cm_H) : cm_x 62 87 [some (.inr (.inr a)), some (.inr (.inr b)), x] st h = cm_gf h 2 6 5 st (fun st => cm_x 62 90 [some (.inr (.inr a)), some (.inr (.inr b)), x] st h) := (cm_x_eq _ _ _ _ _).trans rfl
set_option maxRecDepth 100000 in
theorem h62_90 (a b : Nat) (x : Option cm_V) (st : List cm_V) (h : cm_H) : cm_x 62 90 [some (.inr (.inr a)), some (.inr (.inr b)), x] st h = cm_x 62 91 [some (.inr (.inr a)), some (.inr (.inr b)), x] (.inl 0 :: st) h := (cm_x_eq _ _ _ _ _).trans rfl
set_option maxRecDepth 100000 in
theorem h62_91 (a b : Nat) (x : Option cm_V) (st : List cm_V) (h : cm_H) : cm_x 62 91 [some (.inr (.inr a)), some (.inr (.inr b)), x] st h = cm_x 62 92 [some (.inr (.inr a)), some (.inr (.inr b)), x] (.inr (.inr a) :: st) h := (cm_x_eq _ _ _ _ _).trans rfl
set_option maxRecDepth 100000 in
theorem h62_92 (a b : Nat) (x : Option cm_V) (st : List cm_V) (h : cm_H) : cm_x 62 92 [some (.inr (.inr a)), some (.inr (.inr b)), x] st h = cm_gf h 2 6 5 st (fun st => cm_x 62 95 [some (.inr (.inr a)), some (.inr (.inr b)), x] st h) := (cm_x_eq _ _ _ _ _).trans rfl
set_option maxRecDepth 100000 in
theorem h62_95 (a b : Nat) (x : Option cm_V) (st : List cm_V) (h : cm_H) : cm_x 62 95 [some (.inr (.inr a)), some (.inr (.inr b)), x] st h = cm_x 62 96 [some (.inr (.inr a)), some (.inr (.inr b)), x] (.inl 0 :: st) h := (cm_x_eq _ _ _ _ _).trans rfl
set_option maxRecDepth 100000 in
theorem h62_96 (a b : Nat) (x : Option cm_V) (st : List cm_V) (h : cm_H) : cm_x 62 96 [some (.inr (.inr a)), some (.inr (.inr b)), x] st h = cm_x 62 98 [some (.inr (.inr a)), some (.inr (.inr b)), x] (.inl 13 :: st) h := (cm_x_eq _ _ _ _ _).trans rfl
set_option maxRecDepth 100000 in
theorem h62_98 (a b p q : Nat) (x : Option cm_V) (n : Int) (h : cm_H) : cm_x 62 98 [some (.inr (.inr a)), some (.inr (.inr b)), x] [.inl n, .inl 0, .inr (.inr p), .inl 0, .inr (.inr q)] h = cm_cpy h [.inl n, .inl 0, .inr (.inr p), .inl 0, .inr (.inr q)] (fun st h => cm_x 62 101 [some (.inr (.inr a)), some (.inr (.inr b)), x] st h) := (cm_x_eq _ _ _ _ _).trans rfl
set_option maxRecDepth 100000 in
theorem h62_101 (a b : Nat) (x : Option cm_V) (st : List cm_V) (h : cm_H) : cm_x 62 101 [some (.inr (.inr a)), some (.inr (.inr b)), x] st h = cm_x 62 102 [some (.inr (.inr a)), some (.inr (.inr b)), x] (.inr (.inr a) :: st) h := (cm_x_eq _ _ _ _ _).trans rfl
set_option maxRecDepth 100000 in
theorem h62_102 (a b : Nat) (x : Option cm_V) (st : List cm_V) (h : cm_H) : cm_x 62 102 [some (.inr (.inr a)), some (.inr (.inr b)), x] st h = cm_x 62 103 [some (.inr (.inr a)), some (.inr (.inr b)), x] (.inr (.inr b) :: st) h := (cm_x_eq _ _ _ _ _).trans rfl
set_option maxRecDepth 100000 in
theorem h62_103 (a b : Nat) (x : Option cm_V) (st : List cm_V) (h : cm_H) : cm_x 62 103 [some (.inr (.inr a)), some (.inr (.inr b)), x] st h = cm_gf h 1 6 6 st (fun st => cm_x 62 106 [some (.inr (.inr a)), some (.inr (.inr b)), x] st h) := (cm_x_eq _ _ _ _ _).trans rfl
set_option maxRecDepth 100000 in
theorem h62_106 (a b : Nat) (x : Option cm_V) (st : List cm_V) (h : cm_H) : cm_x 62 106 [some (.inr (.inr a)), some (.inr (.inr b)), x] st h = cm_pf h 1 6 6 st (fun st h => cm_x 62 109 [some (.inr (.inr a)), some (.inr (.inr b)), x] st h) := (cm_x_eq _ _ _ _ _).trans rfl
set_option maxRecDepth 100000 in
theorem h62_109 (a b : Nat) (x : Option cm_V) (st : List cm_V) (h : cm_H) : cm_x 62 109 [some (.inr (.inr a)), some (.inr (.inr b)), x] st h = cm_x 62 110 [some (.inr (.inr a)), some (.inr (.inr b)), x] (.inr (.inr a) :: st) h := (cm_x_eq _ _ _ _ _).trans rfl
set_option maxRecDepth 100000 in
theorem h62_110 (a b : Nat) (x : Option cm_V) (st : List cm_V) (h : cm_H) : cm_x 62 110 [some (.inr (.inr a)), some (.inr (.inr b)), x] st h = cm_x 62 111 [some (.inr (.inr a)), some (.inr (.inr b)), x] (.inr (.inr b) :: st) h := (cm_x_eq _ _ _ _ _).trans rfl
set_option maxRecDepth 100000 in
theorem h62_111 (a b : Nat) (x : Option cm_V) (st : List cm_V) (h : cm_H) : cm_x 62 111 [some (.inr (.inr a)), some (.inr (.inr b)), x] st h = cm_gf h 0 6 7 st (fun st => cm_x 62 114 [some (.inr (.inr a)), some (.inr (.inr b)), x] st h) := (cm_x_eq _ _ _ _ _).trans rfl
set_option maxRecDepth 100000 in
theorem h62_114 (a b : Nat) (x : Option cm_V) (st : List cm_V) (h : cm_H) : cm_x 62 114 [some (.inr (.inr a)), some (.inr (.inr b)), x] st h = cm_pf h 0 6 7 st (fun st h => cm_x 62 117 [some (.inr (.inr a)), some (.inr (.inr b)), x] st h) := (cm_x_eq _ _ _ _ _).trans rfl
set_option maxRecDepth 100000 in
theorem h62_117 (a b : Nat) (x : Option cm_V) (st : List cm_V) (h : cm_H) : cm_x 62 117 [some (.inr (.inr a)), some (.inr (.inr b)), x] st h = cm_x 62 118 [some (.inr (.inr a)), some (.inr (.inr b)), x] (.inr (.inr a) :: st) h := (cm_x_eq _ _ _ _ _).trans rfl
set_option maxRecDepth 100000 in
theorem h62_118 (a b : Nat) (x : Option cm_V) (st : List cm_V) (h : cm_H) : cm_x 62 118 [some (.inr (.inr a)), some (.inr (.inr b)), x] st h = cm_x 62 119 [some (.inr (.inr a)), some (.inr (.inr b)), x] (.inr (.inr b) :: st) h := (cm_x_eq _ _ _ _ _).trans rfl
set_option maxRecDepth 100000 in
theorem h62_119 (a b : Nat) (x : Option cm_V) (st : List cm_V) (h : cm_H) : cm_x 62 119 [some (.inr (.inr a)), some (.inr (.inr b)), x] st h = cm_gf h 0 6 8 st (fun st => cm_x 62 122 [some (.inr (.inr a)), some (.inr (.inr b)), x] st h) := (cm_x_eq _ _ _ _ _).trans rfl
set_option maxRecDepth 100000 in
theorem h62_122 (a b : Nat) (x : Option cm_V) (st : List cm_V) (h : cm_H) : cm_x 62 122 [some (.inr (.inr a)), some (.inr (.inr b)), x] st h = cm_pf h 0 6 8 st (fun st h => cm_x 62 125 [some (.inr (.inr a)), some (.inr (.inr b)), x] st h) := (cm_x_eq _ _ _ _ _).trans rfl
set_option maxRecDepth 100000 in
theorem h62_125 (a b : Nat) (x : Option cm_V) (st : List cm_V) (h : cm_H) : cm_x 62 125 [some (.inr (.inr a)), some (.inr (.inr b)), x] st h = cm_x 62 126 [some (.inr (.inr a)), some (.inr (.inr b)), x] (.inr (.inr a) :: st) h := (cm_x_eq _ _ _ _ _).trans rfl
set_option maxRecDepth 100000 in
theorem h62_126 (a b : Nat) (x : Option cm_V) (st : List cm_V) (h : cm_H) : cm_x 62 126 [some (.inr (.inr a)), some (.inr (.inr b)), x] st h = cm_x 62 127 [some (.inr (.inr a)), some (.inr (.inr b)), x] (.inr (.inr b) :: st) h := (cm_x_eq _ _ _ _ _).trans rfl
set_option maxRecDepth 100000 in
theorem h62_127 (a b : Nat) (x : Option cm_V) (st : List cm_V) (h : cm_H) : cm_x 62 127 [some (.inr (.inr a)), some (.inr (.inr b)), x] st h = cm_gf h 0 6 9 st (fun st => cm_x 62 130 [some (.inr (.inr a)), some (.inr (.inr b)), x] st h) := (cm_x_eq _ _ _ _ _).trans rfl
set_option maxRecDepth 100000 in
theorem h62_130 (a b : Nat) (x : Option cm_V) (st : List cm_V) (h : cm_H) : cm_x 62 130 [some (.inr (.inr a)), some (.inr (.inr b)), x] st h = cm_pf h 0 6 9 st (fun st h => cm_x 62 133 [some (.inr (.inr a)), some (.inr (.inr b)), x] st h) := (cm_x_eq _ _ _ _ _).trans rfl
set_option maxRecDepth 100000 in
theorem h62_133 (a b : Nat) (x : Option cm_V) (st : List cm_V) (h : cm_H) : cm_x 62 133 [some (.inr (.inr a)), some (.inr (.inr b)), x] st h = cm_x 62 134 [some (.inr (.inr a)), some (.inr (.inr b)), x] (.inr (.inr a) :: st) h := (cm_x_eq _ _ _ _ _).trans rfl
set_option maxRecDepth 100000 in
theorem h62_134 (a b : Nat) (x : Option cm_V) (st : List cm_V) (h : cm_H) : cm_x 62 134 [some (.inr (.inr a)), some (.inr (.inr b)), x] st h = cm_x 62 135 [some (.inr (.inr a)), some (.inr (.inr b)), x] (.inr (.inr b) :: st) h := (cm_x_eq _ _ _ _ _).trans rfl
set_option maxRecDepth 100000 in
theorem h62_135 (a b : Nat) (x : Option cm_V) (st : List cm_V) (h : cm_H) : cm_x 62 135 [some (.inr (.inr a)), some (.inr (.inr b)), x] st h = cm_gf h 0 6 10 st (fun st => cm_x 62 138 [some (.inr (.inr a)), some (.inr (.inr b)), x] st h) := (cm_x_eq _ _ _ _ _).trans rfl
set_option maxRecDepth 100000 in
theorem h62_138 (a b : Nat) (x : Option cm_V) (st : List cm_V) (h : cm_H) : cm_x 62 138 [some (.inr (.inr a)), some (.inr (.inr b)), x] st h = cm_pf h 0 6 10 st (fun st h => cm_x 62 141 [some (.inr (.inr a)), some (.inr (.inr b)), x] st h) := (cm_x_eq _ _ _ _ _).trans rfl
set_option maxRecDepth 100000 in
theorem h62_141 (a b : Nat) (x : Option cm_V) (h : cm_H) : cm_x 62 141 [some (.inr (.inr a)), some (.inr (.inr b)), x] [] h = some (.inl none, h) := (cm_x_eq _ _ _ _ _).trans rfl
theorem sg_tf_0 {a b : Nat} (ha : isT a) (hb : isT b) : cm_x 62 0 [some (.inr (.inr a)), some (.inr (.inr b)), none] [] (cm_hp D X) = cm_x 62 32 [some (.inr (.inr a)), some (.inr (.inr b)), some (.inl 0)] [] (cm_hp (cm_ua (cm_ua D (a + 1) (cm_cp (D (b + 1)) (D (a + 1)) 0 0 12)) (a + 2) (cm_cp ((cm_ua D (a + 1) (cm_cp (D (b + 1)) (D (a + 1)) 0 0 12)) (b + 2)) ((cm_ua D (a + 1) (cm_cp (D (b + 1)) (D (a + 1)) 0 0 12)) (a + 2)) 0 0 12)) X) := by
  have a1 := ha.2.2
  have b1 := hb.2.2
  rw [h62_0, h62_1, gf_0 hb, h62_4, h62_5, h62_6, gf_0 ha, h62_9, h62_10, h62_12, cpy_r (fun L => (ha.1 L).2.1) (fun L => (hb.1 L).2.1) (by omega) (by omega) (by omega) (by omega) (by omega)]
  rw [h62_15, h62_16, gf_1 hb, h62_19, h62_20, h62_21, gf_1 ha, h62_24, h62_25, h62_27, cpy_r (fun L => (ha.1 L).2.2.1) (fun L => (hb.1 L).2.2.1) (by omega) (by omega) (by omega) (by omega) (by omega)]
  rw [h62_30, h62_31]
theorem sg_tf_32 {a b : Nat} (ha : isT a) (hb : isT b) {x : Int} (x0 : 0 ≤ x) (x1 : x < 12) : cm_x 62 32 [some (.inr (.inr a)), some (.inr (.inr b)), some (.inl x)] [] (cm_hp D X) = cm_x 62 32 [some (.inr (.inr a)), some (.inr (.inr b)), some (.inl (cm_wr (x + 1)))] [] (cm_hp (cm_up D (a + 3) x ((D (b + 3) x) % 2)) X) := by
  have a1 := ha.2.2
  have b1 := hb.2.2
  rw [h62_32, h62_33, h62_35, if_pos x1, h62_38, h62_39, gf_2 ha, h62_42, h62_43, h62_44, gf_2 hb, h62_47, h62_48, al_r (fun L => (hb.1 L).2.2.2.1) x0 x1, h62_49, as_r (fun L => (ha.1 L).2.2.2.1) (by omega) x0 x1, h62_50, h62_53]
theorem sg_tf_end {a b : Nat} (ha : isT a) (hb : isT b) (hap : a + 7 ≤ b ∨ b + 7 ≤ a) {x : Int} (x1 : ¬ x < 12) (hd : D b 6 = 0 ∨ D b 6 = 1) : cm_x 62 32 [some (.inr (.inr a)), some (.inr (.inr b)), some (.inl x)] [] (cm_hp D X) = some (.inl none, cm_hp (cm_up (cm_up (cm_up (cm_up (cm_up (cm_ua (cm_ua (cm_ua D (a + 4) (cm_cp (D (b + 4)) (D (a + 4)) 0 0 96)) (a + 5) (cm_cp (D (b + 5)) (D (a + 5)) 0 0 96)) (a + 6) (cm_cp (D (b + 6)) (D (a + 6)) 0 0 13)) a 6 (D b 6)) a 7 (D b 7)) a 8 (D b 8)) a 9 (D b 9)) a 10 (D b 10)) X) := by
  have a1 := ha.2.2
  have b1 := hb.2.2
  rw [h62_32, h62_33, h62_35, if_neg x1, h62_56, h62_57, gf_3 hb, h62_60, h62_61, h62_62, gf_3 ha, h62_65, h62_66, h62_68, cpy_r (fun L => (ha.1 L).2.2.2.2.1) (fun L => (hb.1 L).2.2.2.2.1) (by omega) (by omega) (by omega) (by omega) (by omega)]
  rw [h62_71, h62_72, gf_4 hb, h62_75, h62_76, h62_77, gf_4 ha, h62_80, h62_81, h62_83, cpy_r (fun L => (ha.1 L).2.2.2.2.2.1) (fun L => (hb.1 L).2.2.2.2.2.1) (by omega) (by omega) (by omega) (by omega) (by omega), ua_row (show b + 5 ≠ a + 4 by omega), ua_row (show a + 5 ≠ a + 4 by omega)]
  rw [h62_86, h62_87, gf_5 hb, h62_90, h62_91, h62_92, gf_5 ha, h62_95, h62_96, h62_98, cpy_r (fun L => (ha.1 L).2.2.2.2.2.2) (fun L => (hb.1 L).2.2.2.2.2.2) (by omega) (by omega) (by omega) (by omega) (by omega), ua_row (show b + 6 ≠ a + 5 by omega), ua_row (show b + 6 ≠ a + 4 by omega), ua_row (show a + 6 ≠ a + 5 by omega), ua_row (show a + 6 ≠ a + 4 by omega)]
  have e : ∀ (F : Nat → Int → Int), F = cm_ua (cm_ua (cm_ua D (a + 4) (cm_cp (D (b + 4)) (D (a + 4)) 0 0 96)) (a + 5) (cm_cp (D (b + 5)) (D (a + 5)) 0 0 96)) (a + 6) (cm_cp (D (b + 6)) (D (a + 6)) 0 0 13) → F b = D b := by
    intro F hF
    rw [hF, ua_row (by omega), ua_row (by omega), ua_row (by omega)]
  generalize hF : cm_ua (cm_ua (cm_ua D (a + 4) (cm_cp (D (b + 4)) (D (a + 4)) 0 0 96)) (a + 5) (cm_cp (D (b + 5)) (D (a + 5)) 0 0 96)) (a + 6) (cm_cp (D (b + 6)) (D (a + 6)) 0 0 13) = F
  have e := e F hF.symm
  have hba : b ≠ a := by omega
  rw [h62_101, h62_102, h62_103, gi_6 hb, h62_106, pf_6 ha, e, ck_t hd, h62_109, h62_110, h62_111, gi_7 hb, h62_114, pf_7 ha, h62_117, h62_118, h62_119, gi_8 hb, h62_122, pf_8 ha, h62_125, h62_126, h62_127, gi_9 hb, h62_130, pf_9 ha, h62_133, h62_134, h62_135, gi_10 hb, h62_138, pf_10 ha, h62_141]
  simp only [up_row hba, e]
