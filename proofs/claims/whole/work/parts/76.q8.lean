/-! versions: unlike ones counted from the newest on, or by those that no older one is like -/
variable {D E : Nat → Int → Int} {t h pk : Int} {K B : Int → Int}
noncomputable def mdl (p : Int → Int → Prop) (acc : List Int) : List Int → Int
  | [] => 0
  | x :: xs => mdl p acc xs + (1 - tv ((∃ y, y ∈ xs ∧ p x y) ∨ ∃ y, y ∈ acc ∧ p x y))
noncomputable def clsf (p : Int → Int → Prop) : List Int → List Int → Int
  | _, [] => 0
  | acc, x :: xs => if tv (∃ y, y ∈ acc ∧ p x y) = 1 then clsf p acc xs else 1 + clsf p (x :: acc) xs
theorem mdl_c {p : Int → Int → Prop} (ps : ∀ x y, p x y → p y x) (pt : ∀ x y z, p x y → p y z → p x z) {x : Int} {acc : List Int} (hx : ¬ ∃ y, y ∈ acc ∧ p x y) : ∀ xs : List Int, mdl p acc xs = mdl p (x :: acc) xs + tv (∃ y, y ∈ xs ∧ p x y) := by
  intro xs
  induction xs with
  | nil =>
    rw [tv_f (fun ⟨y, h, _⟩ => by cases h)]
    rfl
  | cons y ys ih =>
    show mdl p acc ys + (1 - tv ((∃ z, z ∈ ys ∧ p y z) ∨ ∃ z, z ∈ acc ∧ p y z)) = mdl p (x :: acc) ys + (1 - tv ((∃ z, z ∈ ys ∧ p y z) ∨ ∃ z, z ∈ (x :: acc) ∧ p y z)) + tv (∃ z, z ∈ (y :: ys) ∧ p x z)
    rw [ih]
    by_cases hp : p x y
    · have hy := ps _ _ hp
      have e1 : tv ((∃ z, z ∈ ys ∧ p y z) ∨ ∃ z, z ∈ (x :: acc) ∧ p y z) = 1 := tv_t (Or.inr ⟨x, List.mem_cons_self, hy⟩)
      have e2 : tv (∃ z, z ∈ (y :: ys) ∧ p x z) = 1 := tv_t ⟨y, List.mem_cons_self, hp⟩
      have e3 : tv ((∃ z, z ∈ ys ∧ p y z) ∨ ∃ z, z ∈ acc ∧ p y z) = tv (∃ z, z ∈ ys ∧ p x z) := by
        refine tv_c ⟨?_, ?_⟩
        · rintro (⟨z, z1, z2⟩ | ⟨z, z1, z2⟩)
          · exact ⟨z, z1, pt _ _ _ hp z2⟩
          · exact absurd ⟨z, z1, pt _ _ _ hp z2⟩ hx
        · rintro ⟨z, z1, z2⟩
          exact Or.inl ⟨z, z1, pt _ _ _ hy z2⟩
      rw [e1, e2, e3]
      omega
    · have e1 : tv ((∃ z, z ∈ ys ∧ p y z) ∨ ∃ z, z ∈ (x :: acc) ∧ p y z) = tv ((∃ z, z ∈ ys ∧ p y z) ∨ ∃ z, z ∈ acc ∧ p y z) := by
        refine tv_c ⟨?_, ?_⟩
        · rintro (a | ⟨z, z1, z2⟩)
          · exact Or.inl a
          · rcases List.mem_cons.mp z1 with z1 | z1
            · rw [z1] at z2; exact absurd (ps _ _ z2) hp
            · exact Or.inr ⟨z, z1, z2⟩
        · rintro (a | ⟨z, z1, z2⟩)
          · exact Or.inl a
          · exact Or.inr ⟨z, List.mem_cons_of_mem _ z1, z2⟩
      have e2 : tv (∃ z, z ∈ (y :: ys) ∧ p x z) = tv (∃ z, z ∈ ys ∧ p x z) := by
        refine tv_c ⟨?_, ?_⟩
        · rintro ⟨z, z1, z2⟩
          rcases List.mem_cons.mp z1 with z1 | z1
          · rw [z1] at z2; exact absurd z2 hp
          · exact ⟨z, z1, z2⟩
        · rintro ⟨z, z1, z2⟩
          exact ⟨z, List.mem_cons_of_mem _ z1, z2⟩
      rw [e1, e2]
      omega
theorem cls_m {p : Int → Int → Prop} (ps : ∀ x y, p x y → p y x) (pt : ∀ x y z, p x y → p y z → p x z) : ∀ (xs acc : List Int), clsf p acc xs = mdl p acc xs := by
  intro xs
  induction xs with
  | nil => intro acc; rfl
  | cons x xs ih =>
    intro acc
    show (if tv (∃ y, y ∈ acc ∧ p x y) = 1 then clsf p acc xs else 1 + clsf p (x :: acc) xs) = mdl p acc xs + (1 - tv ((∃ y, y ∈ xs ∧ p x y) ∨ ∃ y, y ∈ acc ∧ p x y))
    by_cases hx : ∃ y, y ∈ acc ∧ p x y
    · rw [tv_t hx, if_pos rfl, tv_t (Or.inr hx), ih]
      omega
    · have e : tv ((∃ y, y ∈ xs ∧ p x y) ∨ ∃ y, y ∈ acc ∧ p x y) = tv (∃ y, y ∈ xs ∧ p x y) := tv_c ⟨fun z => z.resolve_right hx, Or.inl⟩
      rw [tv_f hx, if_neg (by omega), ih, mdl_c ps pt hx xs, e]
      omega
theorem mdl_b (p : Int → Int → Prop) (acc : List Int) : ∀ xs : List Int, 0 ≤ mdl p acc xs ∧ mdl p acc xs ≤ xs.length := by
  intro xs
  induction xs with
  | nil => exact ⟨Int.le_refl _, Int.le_refl _⟩
  | cons x xs ih =>
    have hb := tv_bb ((∃ y, y ∈ xs ∧ p x y) ∨ ∃ y, y ∈ acc ∧ p x y)
    show 0 ≤ mdl p acc xs + (1 - tv _) ∧ mdl p acc xs + (1 - tv _) ≤ ((x :: xs).length : Int)
    rw [List.length_cons]
    omega
theorem alk_s (x y : Int) (hp : alk B x y) : alk B y x := ⟨hp.1.symm, fun c c0 c1 => (hp.2 c c0 (by rw [hp.1]; exact c1)).symm⟩
theorem alk_t (x y z : Int) (hp : alk B x y) (hq : alk B y z) : alk B x z := ⟨hp.1.trans hq.1, fun c c0 c1 => (hp.2 c c0 c1).trans (hq.2 c c0 (by rw [← hp.1]; exact c1))⟩
/-- the entries of a name along the maps -/
def entL (B : Int → Int) (n : Int) : Nat → Int → List Int
  | 0, _ => []
  | f + 1, m => if m = -1 then [] else if mEnt B m n = -1 then entL B n f (B (15 * m + 13)) else mEnt B m n :: entL B n f (B (15 * m + 13))
theorem entL_s (B : Int → Int) (n : Int) (f : Nat) (m : Int) : entL B n (f + 1) m = if m = -1 then [] else if mEnt B m n = -1 then entL B n f (B (15 * m + 13)) else mEnt B m n :: entL B n f (B (15 * m + 13)) := rfl
theorem entL_l (B : Int → Int) (n : Int) : ∀ (f : Nat) (m : Int), (entL B n f m).length ≤ f := by
  intro f
  induction f with
  | zero => intro m; exact Nat.le_refl _
  | succ f ih =>
    intro m
    have := ih (B (15 * m + 13))
    rw [entL_s]
    by_cases h1 : m = -1
    · rw [if_pos h1]; exact Nat.zero_le _
    · rw [if_neg h1]
      by_cases h2 : mEnt B m n = -1
      · rw [if_pos h2]; omega
      · rw [if_neg h2, List.length_cons]; omega
def okE (K B : Int → Int) (h e : Int) : Prop := ∃ m, m ≤ h ∧ entOk K B e m
abbrev ua12 (D : Nat → Int → Int) (g : Int → Int) : Nat → Int → Int := cm_ua D 612 g
theorem d_12 {g : Int → Int} (hd : dOk D K B h) : dOk (ua12 D g) K B h := dOk_of rfl rfl rfl rfl rfl rfl rfl hd
theorem ev_likeOne {X : cm_X} (hd : dOk D K B h) {e u : Int} {g : Int → Int} (he : okE K B h e) (u0 : 0 ≤ u) (u1 : u ≤ 400) (hg : ∀ i, 0 ≤ i → i < u → okE K B h (g i)) : cm_x 120 0 [some (.inr (.inr 0)), some (.inl (e)), some (.inl (u)), none] [] (cm_hp (ua12 D g) X) = some (.inl (some (.inl (tv (∃ i, 0 ≤ i ∧ i < u ∧ alk B e (g i))))), cm_hp (ua12 D g) X) := by
  obtain ⟨m, hm, he⟩ := he
  rw [sg_X8_isLikeOneOf_0]
  have e12 : ua12 D g 612 = g := ua_same
  have L := lp_exi (lo := 0) (hi := u) (X := fun j => cm_x 120 2 [some (.inr (.inr 0)), some (.inl (e)), some (.inl (u)), some (.inl (j))] [] (cm_hp (ua12 D g) X)) (p := fun j => alk B e (g j)) (T := some (.inl (some (.inl (1))), cm_hp (ua12 D g) X)) (F := some (.inl (some (.inl (0))), cm_hp (ua12 D g) X)) u0 (fun j a1 a2 => by
    have ee : cm_wr (j + 1) = j + 1 := cm_wr_id (by omega) (by omega)
    obtain ⟨m2, hm2, hg2⟩ := hg j a1 a2
    refine ⟨fun hp => ?_, fun hp => ?_⟩
    · show cm_x 120 2 [some (.inr (.inr 0)), some (.inl (e)), some (.inl (u)), some (.inl (j))] [] (cm_hp (ua12 D g) X) = _
      rw [sg_X8_isLikeOneOf_2, if_pos a2, ck_t (by omega), e12, ev_tellAlike (d_12 hd) he hm hg2 hm2, aft_v, sg_X8_isLikeOneOf_21, tv_t hp, if_neg (by omega)]
    · show cm_x 120 2 [some (.inr (.inr 0)), some (.inl (e)), some (.inl (u)), some (.inl (j))] [] (cm_hp (ua12 D g) X) = cm_x 120 2 [some (.inr (.inr 0)), some (.inl (e)), some (.inl (u)), some (.inl (j + 1))] [] (cm_hp (ua12 D g) X)
      rw [sg_X8_isLikeOneOf_2, if_pos a2, ck_t (by omega), e12, ev_tellAlike (d_12 hd) he hm hg2 hm2, aft_v, sg_X8_isLikeOneOf_21, tv_f hp, if_pos rfl, ee]) (by
    show cm_x 120 2 [some (.inr (.inr 0)), some (.inl (e)), some (.inl (u)), some (.inl (u))] [] (cm_hp (ua12 D g) X) = _
    rw [sg_X8_isLikeOneOf_2, if_neg (by omega)])
  by_cases hx : ∃ i, 0 ≤ i ∧ i < u ∧ alk B e (g i)
  · rw [tv_t hx]; exact L.1 hx
  · rw [tv_f hx]; exact L.2 hx
theorem ev_versions {X : cm_X} (hd : dOk D K B h) {n : Int} (n0 : 0 ≤ n) (n1 : n < 12) : ∀ (f : Nat) (k m u : Int) (g : Int → Int) (acc : List Int), 0 ≤ k → k + f = 400 → 0 ≤ u → u ≤ k → mpO K (D 9 1) h m → (∀ y, y ∈ acc ↔ ∃ i, 0 ≤ i ∧ i < u ∧ g i = y) → (∀ i, 0 ≤ i → i < u → okE K B h (g i)) → ∃ g', cm_x 119 17 [some (.inr (.inr 0)), some (.inl (n)), some (.inl (u)), some (.inl (m)), some (.inl (k)), none] [] (cm_hp (ua12 D g) X) = some (.inl (some (.inl (u + clsf (alk B) acc (entL B n f m)))), cm_hp (ua12 D g') X) := by
  intro f
  induction f with
  | zero =>
    intro k m u g acc k0 kf u0 u1 hm ha hg
    refine ⟨g, ?_⟩
    rw [sg_X8_versions_17, if_neg (by omega)]
    show _ = (some (.inl (some (.inl (u + 0))), cm_hp (ua12 D g) X) : cm_R)
    rw [Int.add_zero]
  | succ f ih =>
    intro k m u g acc k0 kf u0 u1 hm ha hg
    have e : cm_wr (k + 1) = k + 1 := cm_wr_id (by omega) (by omega)
    have eu : cm_wr (u + 1) = u + 1 := cm_wr_id (by omega) (by omega)
    rw [sg_X8_versions_17, if_pos (by omega), entL_s]
    by_cases h1 : m = -1
    · refine ⟨g, ?_⟩
      rw [if_pos h1, if_pos h1]
      show _ = (some (.inl (some (.inl (u + 0))), cm_hp (ua12 D g) X) : cm_R)
      rw [Int.add_zero]
    · have hmh : m ≤ h := by rcases hm with hm | ⟨⟨_, _⟩, _⟩ <;> omega
      obtain ⟨⟨m0, m1⟩, mk, mo⟩ := mp_map (d_g hd) hm h1
      have hp := (mp_prev (d_g hd) hm h1).1
      have hnext : ∀ g', cm_x 23 0 [some (.inr (.inr 9)), some (.inl (m)), some (.inl (13))] [] (cm_hp (ua12 D g') X) = some (.inl (some (.inl (B (15 * m + 13)))), cm_hp (ua12 D g') X) := fun g' => by rw [ev_toldBy (d_12 hd).1, tb_map (d_12 hd) m0 m1 mk (by omega) (by omega)]
      rw [if_neg h1, if_neg h1, ev_entryBy (d_12 hd) hm n0 n1, if_neg h1, aft_v, sg_X8_versions_39]
      by_cases he : mEnt B m n = -1
      · rw [if_pos he, if_pos he, hnext, aft_v, sg_X8_versions_78, e]
        exact ih (k + 1) _ u g acc (by omega) (by omega) u0 (by omega) hp ha hg
      · have eo : okE K B h (mEnt B m n) := ⟨m, hmh, mEnt_ok (d_g hd) hm h1 n0 n1 he⟩
        rw [if_neg he, if_neg he, ev_likeOne hd eo u0 (by omega) hg, aft_v, sg_X8_versions_54]
        have et : tv (∃ i, 0 ≤ i ∧ i < u ∧ alk B (mEnt B m n) (g i)) = tv (∃ y, y ∈ acc ∧ alk B (mEnt B m n) y) := by
          refine tv_c ⟨?_, ?_⟩
          · rintro ⟨i, i0, i1, i2⟩
            exact ⟨g i, (ha _).mpr ⟨i, i0, i1, rfl⟩, i2⟩
          · rintro ⟨y, y1, y2⟩
            obtain ⟨i, i0, i1, i2⟩ := (ha y).mp y1
            exact ⟨i, i0, i1, by rw [i2]; exact y2⟩
        have ez : clsf (alk B) acc (mEnt B m n :: entL B n f (B (15 * m + 13))) = if tv (∃ y, y ∈ acc ∧ alk B (mEnt B m n) y) = 1 then clsf (alk B) acc (entL B n f (B (15 * m + 13))) else 1 + clsf (alk B) (mEnt B m n :: acc) (entL B n f (B (15 * m + 13))) := rfl
        rw [et, ez]
        rcases tv_b (∃ y, y ∈ acc ∧ alk B (mEnt B m n) y) with ht | ht
        · rw [ht, if_pos rfl, if_neg (by omega), ck_t (by omega), up_ua, hnext, aft_v, sg_X8_versions_78, e, eu]
          have s1 : ∀ y, y ∈ (mEnt B m n :: acc) ↔ ∃ i, 0 ≤ i ∧ i < u + 1 ∧ cm_u1 g u (mEnt B m n) i = y := by
            intro y
            rw [List.mem_cons, ha]
            constructor
            · rintro (z | ⟨i, i0, i1, i2⟩)
              · exact ⟨u, u0, by omega, by rw [u1_at, if_pos rfl, z]⟩
              · exact ⟨i, i0, by omega, by rw [u1_at, if_neg (by omega)]; exact i2⟩
            · rintro ⟨i, i0, i1, i2⟩
              rw [u1_at] at i2
              by_cases hi : i = u
              · rw [if_pos hi] at i2; exact Or.inl i2.symm
              · rw [if_neg hi] at i2; exact Or.inr ⟨i, i0, by omega, i2⟩
          have s2 : ∀ i, 0 ≤ i → i < u + 1 → okE K B h (cm_u1 g u (mEnt B m n) i) := by
            intro i i0 i1
            rw [u1_at]
            by_cases hi : i = u
            · rw [if_pos hi]; exact eo
            · rw [if_neg hi]; exact hg i i0 (by omega)
          obtain ⟨g', hq⟩ := ih (k + 1) (B (15 * m + 13)) (u + 1) (cm_u1 g u (mEnt B m n)) (mEnt B m n :: acc) (by omega) (by omega) (by omega) (by omega) hp s1 s2
          refine ⟨g', hq.trans ?_⟩
          rw [Int.add_assoc]
        · rw [ht, if_neg (by omega), if_pos rfl, hnext, aft_v, sg_X8_versions_78, e]
          exact ih (k + 1) _ u g acc (by omega) (by omega) u0 (by omega) hp ha hg
theorem ev_mVin {X : cm_X} (hd : mdOk D h) {n v m e : Int} (n0 : 0 ≤ n) (n1 : n < 12) (v0 : 0 ≤ v) (v1 : v < 1000) (m0 : 0 ≤ m) (m1 : m < 400) (he : okE (D 619) (D 620) h e) : ∀ (f : Nat) (o : Int), f ≤ 400 → o < f → mpO (D 619) (D 614 1) h o → cm_x 232 65 [some (.inr (.inr 613)), some (.inl (n)), some (.inl (v)), some (.inl (m)), some (.inl (e)), some (.inl (1)), some (.inl (o))] [] (cm_hp D X) = cm_x 232 30 [some (.inr (.inr 613)), some (.inl (n)), some (.inl (v + (1 - tv (∃ y, y ∈ entL (D 620) n f o ∧ alk (D 620) e y)))), some (.inl (D 620 (15 * m + 13))), none, none, none] [] (cm_hp D X) := by
  have hh := hd.1.2.2.2
  have ev0 : cm_wr (v + 0) = v := by rw [Int.add_zero]; exact cm_wr_id (by omega) (by omega)
  have ev1 : cm_wr (v + 1) = v + 1 := cm_wr_id (by omega) (by omega)
  have hend : ∀ o, (o = -1) → cm_x 232 65 [some (.inr (.inr 613)), some (.inl (n)), some (.inl (v)), some (.inl (m)), some (.inl (e)), some (.inl (1)), some (.inl (o))] [] (cm_hp D X) = cm_x 232 30 [some (.inr (.inr 613)), some (.inl (n)), some (.inl (v + 1)), some (.inl (D 620 (15 * m + 13))), none, none, none] [] (cm_hp D X) := fun o ho => by
    rw [sg_X9_versions_65, if_neg (by omega), if_pos ho, if_neg (by omega), ev1, ev_mTells m0 m1 (by omega) (by omega), aft_v, sg_X9_versions_143]
  have hen0 : ∀ o, cm_x 232 65 [some (.inr (.inr 613)), some (.inl (n)), some (.inl (v)), some (.inl (m)), some (.inl (e)), some (.inl (0)), some (.inl (o))] [] (cm_hp D X) = cm_x 232 30 [some (.inr (.inr 613)), some (.inl (n)), some (.inl (v)), some (.inl (D 620 (15 * m + 13))), none, none, none] [] (cm_hp D X) := fun o => by
    rw [sg_X9_versions_65, if_pos rfl, if_pos rfl, ev0, ev_mTells m0 m1 (by omega) (by omega), aft_v, sg_X9_versions_143]
  intro f
  induction f with
  | zero =>
    intro o _ of ho
    rw [hend o (by rcases ho with ho | ⟨⟨_, _⟩, _⟩ <;> omega), tv_f (fun ⟨y, hy, _⟩ => by cases hy)]
    rfl
  | succ f ih =>
    intro o hf of ho
    rw [entL_s]
    by_cases h1 : o = -1
    · rw [hend o h1, if_pos h1, tv_f (fun ⟨y, hy, _⟩ => by cases hy)]
      rfl
    · have hoh : o ≤ h := by rcases ho with ho | ⟨⟨_, _⟩, _⟩ <;> omega
      obtain ⟨⟨o0, o1⟩, -, -⟩ := mp_map hd.1 ho h1
      obtain ⟨hp, hl⟩ := mp_prev hd.1 ho h1
      have ih := ih (D 620 (15 * o + 13)) (by omega) (by omega) hp
      rw [if_neg h1, sg_X9_versions_65, if_neg (by omega), if_neg h1, ev_mEntryBy hd ho h1 n0 n1, aft_v, sg_X9_versions_83]
      by_cases he2 : mEnt (D 620) o n = -1
      · rw [if_pos he2, if_pos he2, ev_mTells o0 (by omega) (by omega) (by omega), aft_v, sg_X9_versions_118, ih]
      · obtain ⟨m2, hm2, he⟩ := he
        have eo := mEnt_ok hd.1 ho h1 n0 n1 he2
        rw [if_neg he2, if_neg he2, ev_mEntryBy hd ho h1 n0 n1, aft_v, sg_X9_versions_97, ev_mAlike hd he hm2 eo hoh, aft_v, sg_X9_versions_100]
        by_cases ha : alk (D 620) e (mEnt (D 620) o n)
        · rw [tv_t ha, if_neg (by omega), ev_mTells o0 (by omega) (by omega) (by omega), aft_v, sg_X9_versions_118, hen0, tv_t ⟨_, List.mem_cons_self, ha⟩]
          show _ = cm_x 232 30 [some (.inr (.inr 613)), some (.inl (n)), some (.inl (v + 0)), some (.inl (D 620 (15 * m + 13))), none, none, none] [] (cm_hp D X)
          rw [Int.add_zero]
        · rw [tv_f ha, if_pos rfl, ev_mTells o0 (by omega) (by omega) (by omega), aft_v, sg_X9_versions_118, ih]
          have et : tv (∃ y, y ∈ (mEnt (D 620) o n :: entL (D 620) n f (D 620 (15 * o + 13))) ∧ alk (D 620) e y) = tv (∃ y, y ∈ entL (D 620) n f (D 620 (15 * o + 13)) ∧ alk (D 620) e y) := by
            refine tv_c ⟨?_, ?_⟩
            · rintro ⟨z, z1, z2⟩
              rcases List.mem_cons.mp z1 with z1 | z1
              · rw [z1] at z2; exact absurd z2 ha
              · exact ⟨z, z1, z2⟩
            · rintro ⟨z, z1, z2⟩
              exact ⟨z, List.mem_cons_of_mem _ z1, z2⟩
          rw [et]
theorem ev_mVers {X : cm_X} (hd : mdOk D h) {n : Int} (n0 : 0 ≤ n) (n1 : n < 12) : ∀ (f : Nat) (v m : Int), f ≤ 400 → m < f → 0 ≤ v → v + f ≤ 500 → mpO (D 619) (D 614 1) h m → cm_x 232 30 [some (.inr (.inr 613)), some (.inl (n)), some (.inl (v)), some (.inl (m)), none, none, none] [] (cm_hp D X) = some (.inl (some (.inl (v + mdl (alk (D 620)) [] (entL (D 620) n f m)))), cm_hp D X) := by
  have hh := hd.1.2.2.2
  intro f
  induction f with
  | zero =>
    intro v m _ mf v0 v1 hm
    rw [sg_X9_versions_30, if_pos (by rcases hm with hm | ⟨⟨_, _⟩, _⟩ <;> omega)]
    show _ = (some (.inl (some (.inl (v + 0))), cm_hp D X) : cm_R)
    rw [Int.add_zero]
  | succ f ih =>
    intro v m hf mf v0 v1 hm
    rw [sg_X9_versions_30, entL_s]
    by_cases h1 : m = -1
    · rw [if_pos h1, if_pos h1]
      show _ = (some (.inl (some (.inl (v + 0))), cm_hp D X) : cm_R)
      rw [Int.add_zero]
    · have hmh : m ≤ h := by rcases hm with hm | ⟨⟨_, _⟩, _⟩ <;> omega
      obtain ⟨⟨m0, m1⟩, -, -⟩ := mp_map hd.1 hm h1
      obtain ⟨hp, hl⟩ := mp_prev hd.1 hm h1
      have ev0 : cm_wr (v + 0) = v := by rw [Int.add_zero]; exact cm_wr_id (by omega) (by omega)
      rw [if_neg h1, if_neg h1, ev_mEntryBy hd hm h1 n0 n1, aft_v, sg_X9_versions_41]
      by_cases he : mEnt (D 620) m n = -1
      · rw [if_pos he, if_pos he, ev_mTells m0 (by omega) (by omega) (by omega), aft_v, sg_X9_versions_63, sg_X9_versions_65, if_pos rfl, if_pos rfl, ev0, ev_mTells m0 (by omega) (by omega) (by omega), aft_v, sg_X9_versions_143, ih v _ (by omega) (by omega) v0 (by omega) hp]
      · have eo : okE (D 619) (D 620) h (mEnt (D 620) m n) := ⟨m, hmh, mEnt_ok hd.1 hm h1 n0 n1 he⟩
        have hb := tv_bb (∃ y, y ∈ entL (D 620) n f (D 620 (15 * m + 13)) ∧ alk (D 620) (mEnt (D 620) m n) y)
        rw [if_neg he, if_neg he, ev_mTells m0 (by omega) (by omega) (by omega), aft_v, sg_X9_versions_63, ev_mVin hd n0 n1 v0 (by omega) m0 (by omega) eo f _ (by omega) (by omega) hp, ih _ _ (by omega) (by omega) (by omega) (by omega) hp]
        have ez : mdl (alk (D 620)) [] (mEnt (D 620) m n :: entL (D 620) n f (D 620 (15 * m + 13))) = mdl (alk (D 620)) [] (entL (D 620) n f (D 620 (15 * m + 13))) + (1 - tv ((∃ y, y ∈ entL (D 620) n f (D 620 (15 * m + 13)) ∧ alk (D 620) (mEnt (D 620) m n) y) ∨ ∃ y, y ∈ ([] : List Int) ∧ alk (D 620) (mEnt (D 620) m n) y)) := rfl
        have et : tv ((∃ y, y ∈ entL (D 620) n f (D 620 (15 * m + 13)) ∧ alk (D 620) (mEnt (D 620) m n) y) ∨ ∃ y, y ∈ ([] : List Int) ∧ alk (D 620) (mEnt (D 620) m n) y) = tv (∃ y, y ∈ entL (D 620) n f (D 620 (15 * m + 13)) ∧ alk (D 620) (mEnt (D 620) m n) y) := tv_c ⟨fun z => z.elim id (fun ⟨y, hy, _⟩ => by cases hy), Or.inl⟩
        rw [ez, et, Int.add_assoc, Int.add_comm (1 - tv _)]
theorem q_versions (hR : R D t) (X : cm_X) (n : Int) : QQ t D X (fun H => cm_x 119 0 [some (.inr (.inr 0)), some (.inl (n)), none, none, none, none] [] H) (fun H => cm_x 232 0 [some (.inr (.inr 613)), some (.inl (n)), none, none, none, none, none] [] H) 0 := by
  have hc := hR.1
  have hd := hc.1
  have hr := hc.2.2.2.2.1
  have hmd : mdOk (cm_up D 613 0 0) (D 15 9) := Rc_md hc
  have e242 : (cm_up D 613 0 0) 617 242 = D 15 7 := hr.2.2.2.2.1
  have hmq : mpO ((cm_up D 613 0 0) 619) ((cm_up D 613 0 0) 614 1) (D 15 9) (D 15 7) := by rw [← e242]; exact mp_617 hc
  have hl := mp_lt hd (mp_15 hc)
  by_cases h2 : 0 ≤ n ∧ n < 12
  · obtain ⟨g', c1⟩ := ev_versions (X := X) hd h2.1 h2.2 400 0 (D 15 7) 0 (D 612) [] (by omega) (by omega) (by omega) (by omega) (mp_15 hc) (fun y => ⟨fun z => (by cases z), fun ⟨i, i0, i1, _⟩ => (by omega)⟩) (fun i i0 i1 => by omega)
    have es : ua12 D (D 612) = D := by
      funext a j
      unfold ua12
      rw [ua_at]
      by_cases ha : a = 612
      · rw [if_pos ha, ha]
      · rw [if_neg ha]
    rw [es, Int.zero_add] at c1
    have hR' : R (ua12 D g') t := R_eq (eqR_ua (by unfold cRow; omega) (by omega) (by omega)) hR.2.2.2.2 hR
    refine ⟨some (clsf (alk (D 620)) [] (entL (D 620) n 400 (D 15 7))), ua12 D g', ?_, fun Y => ⟨cm_up (ua12 D g') 613 0 0, ?_, rfl, R_c0 hR', rfl⟩⟩
    · show cm_x 119 0 [some (.inr (.inr 0)), some (.inl (n)), none, none, none, none] [] (cm_hp D X) = _
      rw [sg_X8_versions_0, ev_cn, if_pos h2, aft_n, sg_X8_versions_4, c1]
      rfl
    · show cm_x 232 0 [some (.inr (.inr 613)), some (.inl n), none, none, none, none, none] [] (cm_hp (ua12 D g') Y) = _
      have hmd' : mdOk (cm_up (ua12 D g') 613 0 0) (D 15 9) := hmd
      have e242' : (cm_up (ua12 D g') 613 0 0) 617 242 = D 15 7 := e242
      rw [sg_X9_versions_0, ev_mName, if_pos h2, aft_v, sg_X9_versions_10, if_neg (by omega), e242', ev_mVers hmd' h2.1 h2.2 400 0 (D 15 7) (by omega) (by omega) (by omega) (by omega) hmq, Int.zero_add]
      show _ = (some (.inl (some (.inl (clsf (alk (D 620)) [] (entL (D 620) n 400 (D 15 7))))), cm_hp (cm_up (ua12 D g') 613 0 0) Y) : cm_R)
      rw [cls_m alk_s alk_t]
      rfl
  · refine QQ_n hR (fun X => ?_) (fun X => ?_)
    · show cm_x 119 0 [some (.inr (.inr 0)), some (.inl (n)), none, none, none, none] [] (cm_hp D X) = _
      rw [sg_X8_versions_0, ev_cn, if_neg h2, aft_e (y := 119) (p0 := 1) (e := 0) _ _ _ _ rfl]
    · show cm_x 232 0 [some (.inr (.inr 613)), some (.inl (n)), none, none, none, none, none] [] (cm_hp D X) = _
      rw [sg_X9_versions_0, ev_mName, if_neg h2, aft_v, sg_X9_versions_10, if_pos rfl, sg_X9_fail_0, aft_v, sg_X9_versions_18]
