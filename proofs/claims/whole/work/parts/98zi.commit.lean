/-! behind a writing: what was written is so in mind -/
variable {C D E F : Nat → Int → Int} {X Y : cm_X} {S : Nat → Int → Int} {L : List CT} {f a b A W a' b' A' W' : Int → Int} {q : Int}
theorem hp_inj {v v' : Int} {D D' : Nat → Int → Int} (h : (some (.inl (some (.inl v)), cm_hp D X) : cm_R) = some (.inl (some (.inl v')), cm_hp D' X)) : v = v' ∧ D = D' := by
  have h1 := Option.some.inj h
  have h2 := congrArg Prod.snd h1
  have h3 := congrArg Prod.fst h1
  exact ⟨Sum.inl.inj (Option.some.inj (Sum.inl.inj h3)), congrArg (fun z : cm_H => z.2.2.1) h2⟩
theorem hp_inn {D D' : Nat → Int → Int} (h : (some (.inl none, cm_hp D X) : cm_R) = some (.inl none, cm_hp D' X)) : D = D' := by
  have h1 := Option.some.inj h
  have h2 := congrArg Prod.snd h1
  exact congrArg (fun z : cm_H => z.2.2.1) h2
theorem plQ_a {V : Int → Int} (h : plQ V A W L q f a b) (h' : plQ V A' W' L q f a' b') {y : Int} (y0 : 0 ≤ y) (y1 : y < 96) (hA : A y = A' y) : a y = a' y := by
  by_cases hq : ∃ (t : Nat) (n c : Int), (t : Int) < q ∧ L[t]? = some (3, n, c) ∧ y = n * 8 + c
  · obtain ⟨t, n, c, h1, h2, h3⟩ := hq
    rw [h3, h.1 t n c h1 h2, h'.1 t n c h1 h2]
  · rw [h.2.1 y y0 y1 fun t n c h1 h2 h3 => hq ⟨t, n, c, h1, h2, h3⟩, h'.2.1 y y0 y1 fun t n c h1 h2 h3 => hq ⟨t, n, c, h1, h2, h3⟩, hA]
theorem plQ_b {V : Int → Int} (h : plQ V A W L q f a b) (h' : plQ V A' W' L q f a' b') {v : Int} (v0 : 0 ≤ v) (v1 : v < 13) (hW : W v = W' v) : b v = b' v := by
  by_cases hq : ∃ (t : Nat) (n d : Int), (t : Int) < q ∧ L[t]? = some (4, n, d) ∧ v = V n
  · obtain ⟨t, n, d, h1, h2, h3⟩ := hq
    rw [h3, h.2.2.1 t n d h1 h2, h'.2.2.1 t n d h1 h2]
  · by_cases hr : ∃ (t : Nat) (n d : Int), (t : Int) < q ∧ L[t]? = some (5, n, d) ∧ v = 0
    · obtain ⟨t, n, d, h1, h2, h3⟩ := hr
      rw [h3, h.2.2.2.1 t n d h1 h2, h'.2.2.2.1 t n d h1 h2]
    · rw [h.2.2.2.2 v v0 v1 (fun t n d h1 h2 h3 => hq ⟨t, n, d, h1, h2, h3⟩) (fun t n d h1 h2 h3 => hr ⟨t, n, d, h1, h2, h3⟩), h'.2.2.2.2 v v0 v1 (fun t n d h1 h2 h3 => hq ⟨t, n, d, h1, h2, h3⟩) (fun t n d h1 h2 h3 => hr ⟨t, n, d, h1, h2, h3⟩), hW]
/-- the reference's commit so far -/
def cmQ (S : Nat → Int → Int) (L : List CT) (E : Nat → Int → Int) (j : Int) (g : Int → Int) : Prop := plQ (S 1) (fun y => E 617 (36 + y)) (fun v => E 617 (228 + v)) L j (E 624) (fun y => g (36 + y)) (fun v => g (228 + v)) ∧ (∀ y, ¬ (36 ≤ y ∧ y < 132) → ¬ (228 ≤ y ∧ y < 241) → y ≠ 242 → g y = E 617 y) ∧ ((L.length : Int) ≤ j → g 242 = E 624 ((L.length : Int) - 1))
theorem mxq_j {j : Int} : mxq j j = j + 1 := by unfold mxq; rw [if_pos (Int.le_refl _)]
theorem ev_mCommit (hg : gL S L) (hn : nS S) (hm : mHol E L) (hl : L.length ≤ 125) (hr : rQ S (E 617)) : ∃ g, cm_x 210 0 [some (.inr (.inr 613)), none] [] (cm_hp E X) = some (.inl none, cm_hp (cm_ua E 617 g) X) ∧ plQ (S 1) (fun y => E 617 (36 + y)) (fun v => E 617 (228 + v)) L (L.length : Int) (E 624) (fun y => g (36 + y)) (fun v => g (228 + v)) ∧ g 242 = E 624 ((L.length : Int) - 1) ∧ (∀ n, 0 ≤ n → n < 12 → g (24 + n) = 0) ∧ g 241 = 0 ∧ ∀ y, ¬ (24 ≤ y ∧ y < 132) → ¬ (228 ≤ y ∧ y < 243) → g y = E 617 y := by
  obtain ⟨g, R1, R2⟩ := lp_inv (X := fun j g => cm_x 210 2 [some (.inr (.inr 613)), some (.inl (j))] [] (cm_hp (cm_ua E 617 g) X)) (P := fun j g => cmQ S L E j g) (lo := 0) (hi := (L.length : Int)) (fun j g j0 j1 hP => by
    obtain ⟨p1, p2, p3⟩ := hP
    have w2 : cm_wr (j + 1) = j + 1 := cm_wr_id (by omega) (by omega)
    obtain ⟨n, x, e1, e2⟩ := ct_at (L := L) j0 j1
    obtain ⟨k1, k2⟩ := hm.2 n x e2
    rw [e1] at k1 k2
    obtain ⟨x1, x2, x3⟩ := x
    dsimp only at k1
    have q25 : (cm_ua E 617 g) 613 25 = (L.length : Int) := hm.1
    have q622 : (cm_ua E 617 g) 622 = E 622 := rfl
    have q623 : (cm_ua E 617 g) 623 = E 623 := rfl
    have q624 : (cm_ua E 617 g) 624 = E 624 := rfl
    have q617 : (cm_ua E 617 g) 617 = g := ua_same
    have fid : cm_u1 (E 624) j (E 624 j) = E 624 := u1_id
    have up : ∀ y v, cm_up (cm_ua E 617 g) 617 y v = cm_ua E 617 (cm_u1 g y v) := fun y v => by rw [up_to_ua, ua_ua, ua_same]
    by_cases h3 : x1 = 3
    · rw [h3] at e2 k2
      have w := ct_3 hg e2 hn
      rw [whs3] at k2
      refine ⟨cm_u1 g (36 + (8 * x2 + x3)) (E 624 j), ?_, ?_, fun y a1 a2 a3 => ?_, fun z => ?_⟩
      · show cm_x 210 2 [some (.inr (.inr 613)), some (.inl (j))] [] (cm_hp (cm_ua E 617 g) X) = cm_x 210 2 [some (.inr (.inr 613)), some (.inl (j + 1))] [] (cm_hp (cm_ua E 617 (cm_u1 g (36 + (8 * x2 + x3)) (E 624 j))) X)
        rw [sg_X9_commit_2, q25, if_pos j1, ck_t (by omega), q622, k1, if_pos h3, ck_t (by omega), ck_t (by omega), q623, k2, cm_wr_id (x := 36 + (8 * x2 + x3)) (by omega) (by omega), ck_t (by omega), w2, q624, up]
      · have := plQ_3 (v := E 624 j) hg hn p1 e2 (by omega)
        rw [e1, mxq_j, fid] at this
        refine plQ_cg hg hn this (fun y y0 y1 => ?_) (fun v v0 v1 => ?_)
        · by_cases hy : y = x2 * 8 + x3
          · rw [hy, u1_eq, show 36 + (x2 * 8 + x3) = 36 + (8 * x2 + x3) by omega, u1_eq]
          · rw [u1_ne hy, u1_ne (by omega)]
        · rw [u1_ne (by omega)]
      · rw [u1_ne (by omega)]; exact p2 y a1 a2 a3
      · have := ct_lt hg e2 (by show ¬ (3 : Int) = 6; omega)
        omega
    · by_cases h4 : x1 = 4
      · rw [h4] at e2 k2
        have w := ct_4 hg e2
        rw [whs4] at k2
        have wv := (hn.2.1 x2 w.2.1.1 w.2.1.2).1
        have gn : g x2 = S 1 x2 := by
          rw [p2 x2 (by omega) (by omega) (by omega)]
          obtain ⟨r, r1, r2⟩ := hr
          rw [r2 _ (by omega) (by omega), (r1.1 x2 w.2.1.1 w.2.1.2).1, if_neg w.2.2.1]
        refine ⟨cm_u1 g (228 + S 1 x2) (E 624 j), ?_, ?_, fun y a1 a2 a3 => ?_, fun z => ?_⟩
        · show cm_x 210 2 [some (.inr (.inr 613)), some (.inl (j))] [] (cm_hp (cm_ua E 617 g) X) = cm_x 210 2 [some (.inr (.inr 613)), some (.inl (j + 1))] [] (cm_hp (cm_ua E 617 (cm_u1 g (228 + S 1 x2) (E 624 j))) X)
          rw [sg_X9_commit_2, q25, if_pos j1, ck_t (by omega), q622, k1, if_neg h3, ck_t (by omega), if_pos h4, ck_t (by omega), q623, k2, cm_wr_id (x := 0 + x2) (by omega) (by omega), Int.zero_add, ck_t (by omega), ck_t (by omega), q617, gn, cm_wr_id (x := 228 + S 1 x2) (by omega) (by omega), ck_t (by omega), w2, q624, up]
        · have := plQ_4 (v := E 624 j) hg hn p1 e2 (by omega)
          rw [e1, mxq_j, fid] at this
          refine plQ_cg hg hn this (fun y y0 y1 => ?_) (fun v v0 v1 => ?_)
          · rw [u1_ne (by omega)]
          · by_cases hy : v = S 1 x2
            · rw [hy, u1_eq, u1_eq]
            · rw [u1_ne hy, u1_ne (by omega)]
        · rw [u1_ne (by omega)]; exact p2 y a1 a2 a3
        · have := ct_lt hg e2 (by show ¬ (4 : Int) = 6; omega)
          omega
      · by_cases h5 : x1 = 5
        · rw [h5] at e2
          refine ⟨cm_u1 g 228 (E 624 j), ?_, ?_, fun y a1 a2 a3 => ?_, fun z => ?_⟩
          · show cm_x 210 2 [some (.inr (.inr 613)), some (.inl (j))] [] (cm_hp (cm_ua E 617 g) X) = cm_x 210 2 [some (.inr (.inr 613)), some (.inl (j + 1))] [] (cm_hp (cm_ua E 617 (cm_u1 g 228 (E 624 j))) X)
            rw [sg_X9_commit_2, q25, if_pos j1, ck_t (by omega), q622, k1, if_neg h3, ck_t (by omega), if_neg h4, ck_t (by omega), if_pos h5, ck_t (by omega), w2, q624, up]
          · have := plQ_5 (v := E 624 j) hg p1 e2 (by omega)
            rw [e1, mxq_j, fid] at this
            refine plQ_cg hg hn this (fun y y0 y1 => ?_) (fun v v0 v1 => ?_)
            · rw [u1_ne (by omega)]
            · by_cases hy : v = 0
              · rw [hy, u1_eq, Int.add_zero, u1_eq]
              · rw [u1_ne hy, u1_ne (by omega)]
          · rw [u1_ne (by omega)]; exact p2 y a1 a2 a3
          · have := ct_lt hg e2 (by show ¬ (5 : Int) = 6; omega)
            omega
        · have hp0 := plQ_0 (v := E 624 j) p1 e2 h3 h4 h5 (by omega)
          rw [e1, mxq_j, fid] at hp0
          by_cases h6 : x1 = 6
          · rw [h6] at e2
            have hl6 := ct_6 hg e2
            refine ⟨cm_u1 g 242 (E 624 j), ?_, ?_, fun y a1 a2 a3 => ?_, fun z => ?_⟩
            · show cm_x 210 2 [some (.inr (.inr 613)), some (.inl (j))] [] (cm_hp (cm_ua E 617 g) X) = cm_x 210 2 [some (.inr (.inr 613)), some (.inl (j + 1))] [] (cm_hp (cm_ua E 617 (cm_u1 g 242 (E 624 j))) X)
              rw [sg_X9_commit_2, q25, if_pos j1, ck_t (by omega), q622, k1, if_neg h3, ck_t (by omega), if_neg h4, ck_t (by omega), if_neg h5, ck_t (by omega), if_pos h6, ck_t (by omega), w2, q624, up]
            · refine plQ_cg hg hn hp0 (fun y y0 y1 => ?_) (fun v v0 v1 => ?_)
              · rw [u1_ne (by omega)]
              · rw [u1_ne (by omega)]
            · rw [u1_ne a3]; exact p2 y a1 a2 a3
            · rw [u1_eq, show (L.length : Int) - 1 = j by omega]
          · refine ⟨g, ?_, hp0, p2, fun z => ?_⟩
            · show cm_x 210 2 [some (.inr (.inr 613)), some (.inl (j))] [] (cm_hp (cm_ua E 617 g) X) = cm_x 210 2 [some (.inr (.inr 613)), some (.inl (j + 1))] [] (cm_hp (cm_ua E 617 g) X)
              rw [sg_X9_commit_2, q25, if_pos j1, ck_t (by omega), q622, k1, if_neg h3, ck_t (by omega), if_neg h4, ck_t (by omega), if_neg h5, ck_t (by omega), if_neg h6, w2]
            · have := ct_lt hg e2 h6
              omega) (E 617) (by omega) ⟨⟨fun t n c h => by omega, fun y _ _ _ => rfl, fun t n d h => by omega, fun t n d h => by omega, fun v _ _ _ _ => rfl⟩, fun _ _ _ _ => rfl, fun z => by
                have := hg.2.2.2.2.2.1
                omega⟩
  have R1 : cm_x 210 2 [some (.inr (.inr 613)), some (.inl (0))] [] (cm_hp (cm_ua E 617 (E 617)) X) = cm_x 210 2 [some (.inr (.inr 613)), some (.inl ((L.length : Int)))] [] (cm_hp (cm_ua E 617 g) X) := R1
  rw [ua_id] at R1
  obtain ⟨p1, p2, p3⟩ := R2
  obtain ⟨g', R3, R4, R5⟩ := lp_inv (X := fun j g => cm_x 210 144 [some (.inr (.inr 613)), some (.inl (j))] [] (cm_hp (cm_ua E 617 g) X)) (P := fun j g' => (∀ n, 0 ≤ n → n < j → g' (24 + n) = 0) ∧ ∀ y, ¬ (24 ≤ y ∧ y < 36) → g' y = g y) (lo := 0) (hi := 12) (fun j g' j0 j1 hP => by
    refine ⟨cm_u1 g' (24 + j) 0, ?_, fun n n0 n1 => ?_, fun y hy => ?_⟩
    · show cm_x 210 144 [some (.inr (.inr 613)), some (.inl (j))] [] (cm_hp (cm_ua E 617 g') X) = cm_x 210 144 [some (.inr (.inr 613)), some (.inl (j + 1))] [] (cm_hp (cm_ua E 617 (cm_u1 g' (24 + j) 0)) X)
      rw [sg_X9_commit_144, if_pos j1, cm_wr_id (x := 24 + j) (by omega) (by omega), ck_t (by omega), cm_wr_id (x := j + 1) (by omega) (by omega), up_to_ua, ua_ua, ua_same]
    · by_cases h : n = j
      · rw [h, u1_eq]
      · rw [u1_ne (by omega)]; exact hP.1 n n0 (by omega)
    · rw [u1_ne (by omega)]; exact hP.2 y hy) g (by omega) ⟨fun n n0 n1 => by omega, fun _ _ => rfl⟩
  have R3 : cm_x 210 144 [some (.inr (.inr 613)), some (.inl (0))] [] (cm_hp (cm_ua E 617 g) X) = cm_x 210 144 [some (.inr (.inr 613)), some (.inl (12))] [] (cm_hp (cm_ua E 617 g') X) := R3
  have q25 : (cm_ua E 617 g) 613 25 = (L.length : Int) := hm.1
  refine ⟨cm_u1 g' 241 0, ?_, ?_, ?_, fun n n0 n1 => ?_, u1_eq, fun y h1 h2 => ?_⟩
  · rw [sg_X9_commit_0, R1, sg_X9_commit_2, q25, if_neg (by omega), R3, sg_X9_commit_144, if_neg (by omega), up_to_ua, ua_ua, ua_same]
  · refine plQ_cg hg hn p1 (fun y y0 y1 => ?_) (fun v v0 v1 => ?_)
    · rw [u1_ne (by omega), R5 _ (by omega)]
    · rw [u1_ne (by omega), R5 _ (by omega)]
  · rw [u1_ne (by omega), R5 _ (by omega)]; exact p3 (Int.le_refl _)
  · rw [u1_ne (by omega)]; exact R4 n n0 n1
  · rw [u1_ne (by omega), R5 _ (by omega)]; exact p2 y (by omega) (by omega) (by omega)
