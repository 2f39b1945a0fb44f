/-! a session is closed: both -/
variable {D E : Nat → Int → Int} {X : cm_X} {K B K' B' : Int → Int} {h pk t : Int} {S : Nat → Int → Int} {r : Int → Int}
/-- one more block -/
theorem rDk_add {Kc Lc Tc Kc' Lc' Tc' : Int → Int} (e : eqB h K B K' B') (ec : ∀ b, 0 ≤ b → b < h → Kc' b = Kc b ∧ Lc' b = Lc b ∧ ∀ i, 0 ≤ i → i < 15 → Tc' (b * 15 + i) = Tc (b * 15 + i)) (hr : rDk Kc Lc Tc K B h) (h1 : Kc' h = K' h) (h2 : 1 ≤ K' h ∧ K' h ≤ 8) (h3 : K' h = 4 → 0 ≤ B' (15 * h + 8) ∧ B' (15 * h + 8) ≤ 8) (h4 : Lc' h = mLen (K' h) (B' (15 * h + 8))) (h5 : ∀ i, 0 ≤ i → i < Lc' h → Tc' (h * 15 + i) = B' (15 * h + i)) : rDk Kc' Lc' Tc' K' B' (h + 1) := by
  intro b b0 b1
  by_cases hb : b < h
  · exact rDk_eq e ec hr b b0 hb
  · have : b = h := by omega
    rw [this]
    exact ⟨h1, h2, h3, h4, h5⟩
theorem vDk_add (e : eqB h K B K' B') (hl : lnE K B h) (hv : vDk pk K B h) (h1 : K' h = 6 → pk - 1 ≤ h ∧ (goodM K' pk h → mapOk K' B' pk h)) : vDk pk K' B' (h + 1) := by
  intro b b0 b1 bk
  by_cases hb : b < h
  · exact vDk_eq e hl hv b b0 hb bk
  · have : b = h := by omega
    rw [this] at bk ⊢
    exact h1 bk
/-- blocks that carry nothing, from h on -/
theorem dk_out {Kc Lc Tc Kc' Lc' : Int → Int} {n k : Int} (hk : k = 1 ∨ k = 2 ∨ k = 7 ∨ k = 8) (hr : rDk Kc Lc Tc K B h) (hv : vDk pk K B h) (eK : ∀ b, K' b = if h ≤ b ∧ b < h + n then k else K b) (e1 : ∀ b, Kc' b = if h ≤ b ∧ b < h + n then k else Kc b) (e2 : ∀ b, Lc' b = if h ≤ b ∧ b < h + n then 0 else Lc b) : rDk Kc' Lc' Tc K' B (h + n) ∧ vDk pk K' B (h + n) ∧ eqB h K B K' B := by
  have e : eqB h K B K' B := fun b b0 b1 => ⟨by rw [eK, if_neg (by omega)], fun i _ _ => rfl⟩
  refine ⟨fun b b0 b1 => ?_, fun b b0 b1 bk => ?_, e⟩
  · by_cases hb : b < h
    · exact rDk_eq e (fun b b0 b1 => ⟨by rw [e1, if_neg (by omega)], by rw [e2, if_neg (by omega)], fun i _ _ => rfl⟩) hr b b0 hb
    · rw [e1, e2, eK, if_pos (by omega), if_pos (by omega), if_pos (by omega)]
      refine ⟨rfl, by omega, by omega, ?_, by omega⟩
      unfold mLen
      omega
  · by_cases hb : b < h
    · exact vDk_eq e (rDk_ln hr) hv b b0 hb bk
    · rw [eK, if_pos (by omega)] at bk
      omega
/-- a State whose head and session move on -/
def hdS (S : Nat → Int → Int) (e m : Int) : Nat → Int → Int := fun j => if j = 0 then cm_u1 (cm_u1 (S 0) 8 e) 9 m else S j
theorem rS_hd {e m : Int} (hn : nS S) (hr : rS S r) : rS (hdS S e m) (cm_u1 (cm_u1 r 243 e) 244 m) := by
  obtain ⟨r1, r2, r3, r4, r5, r6, r7, r8⟩ := hr
  have ne : ∀ j, j ≠ 243 → j ≠ 244 → (cm_u1 (cm_u1 r 243 e) 244 m) j = r j := fun j a b => by rw [u1_ne b, u1_ne a]
  refine ⟨fun n a b => ?_, fun n c a b c0 c1 => ?_, fun v a b => ?_, ?_, ?_, rfl, rfl, ?_⟩
  · rw [ne n (by omega) (by omega), ne _ (by omega) (by omega), ne _ (by omega) (by omega)]; exact r1 n a b
  · have hc := (hn.2.1 n a b).2.1
    have c1 : c < S 2 n := c1
    rw [ne _ (by omega) (by omega), ne _ (by omega) (by omega)]; exact r2 n c a b c0 c1
  · rw [ne _ (by omega) (by omega)]; exact r3 v a b
  · rw [ne _ (by omega) (by omega)]; exact r4
  · rw [ne _ (by omega) (by omega)]; exact r5
  · rw [ne _ (by omega) (by omega)]; exact r8
theorem nS_hd {e m : Int} (hn : nS S) : nS (hdS S e m) := hn
theorem mpO_le {m m' x : Int} (hm : m ≤ m') (ho : mpO K pk m x) : mpO K pk m' x := ho.imp id fun z => ⟨⟨z.1.1, by have := z.1.2; omega⟩, z.2⟩
theorem ent_le {m m' x : Int} (hm : m ≤ m') (ho : entOk K B x m) : entOk K B x m' := ⟨⟨ho.1.1, by have := ho.1.2; omega⟩, ho.2⟩
theorem dir_le {m m' x : Int} (hm : m ≤ m') (ho : dirOk K B x m) : dirOk K B x m' := ⟨⟨ho.1.1, by have := ho.1.2; omega⟩, ho.2⟩
theorem vS_hd {e m : Int} (hm : S 0 9 ≤ m) (hv : vS pk K B S) : vS pk K B (hdS S e m) := by
  obtain ⟨s1, s2, s3, s4, s5, s6, s7⟩ := hv
  refine ⟨?_, mpO_le hm s2, fun n c n0 n1 c0 c1 => (s3 n c n0 n1 c0 c1).imp id (fun z => ⟨⟨z.1.1, ?_⟩, z.2⟩), fun v v0 v1 => (s4 v v0 v1).imp id (fun z => ent_le hm z), s5.imp id (fun z => dir_le hm z), s6, s7⟩
  · show 0 ≤ m
    omega
  · show S 4 (n * 8 + c) < m
    have := z.1.2
    omega
theorem wS_hd {e m : Int} (hm : S 0 9 ≤ m) (hw : wS pk K B S) : wS pk K B (hdS S e m) := ⟨nS_hd hw.1, vS_hd hm hw.2.1, hw.2.2⟩
/-- a State without files -/
theorem dr_R {f : Int → Int} (h1 : ∀ n, 0 ≤ n → n < 12 → S 1 n = 0 ∧ S 2 n = 0 ∧ S 3 n = 0) (h2 : ∀ v, 0 ≤ v → v < 13 → S 6 v = -1) (h3 : S 0 6 = 0) (f1 : ∀ n, 0 ≤ n → n < 12 → f n = -1 ∧ f (12 + n) = 0 ∧ f (24 + n) = 0) (f2 : ∀ v, 0 ≤ v → v < 13 → f (228 + v) = -1) (f3 : f 241 = 0) (e7 : f 242 = S 0 7) (e8 : f 243 = S 0 8) (e9 : f 244 = S 0 9) (e10 : f 245 = S 0 10) (hm : mpO K pk (S 0 9) (S 0 7)) (h9 : 0 ≤ S 0 9) (hi : i32 (S 0 10)) : rS S f ∧ wS pk K B S := by
  refine ⟨⟨fun n a b => ?_, fun n c a b c0 c1 => ?_, fun v a b => ?_, ?_, e7, e8, e9, e10⟩, ⟨Or.inl h3, fun n a b => ?_, fun n m a b c d e f => ?_⟩, ⟨h9, hm, fun n c a b c0 c1 => ?_, fun v a b => Or.inl (h2 v (by omega) b), Or.inl (h2 0 (by omega) (by omega)), fun _ => ⟨fun _ n a b => (h1 n a b).1, fun z => absurd (h2 0 (by omega) (by omega)) z⟩, fun n a b z => absurd (h1 n a b).1 z⟩, hi⟩
  · obtain ⟨a1, a2, a3⟩ := h1 n a b
    obtain ⟨b1, b2, b3⟩ := f1 n a b
    rw [a1, a2, a3, b1, b2, b3]
    exact ⟨rfl, rfl, rfl⟩
  · have := (h1 n a b).2.1
    omega
  · rw [f2 v a b, h2 v a b]
  · rw [f3, h3]
  · obtain ⟨a1, a2, a3⟩ := h1 n a b
    rw [a1, a2, a3]
    omega
  · exact absurd (h1 n a b).1 f
  · have := (h1 n a b).2.1
    omega
/-- the class writes the blocks between sessions -/
theorem ev_outs {a : Int} (h0 : 0 ≤ D 15 9) (n0 : 0 ≤ D 9 3) (h1 : D 15 9 + D 9 3 ≤ D 9 0) (h4 : D 9 0 ≤ 400) : ∃ D', cm_x 140 0 [some (.inr (.inr 0)), some (.inl (a)), none] [] (cm_hp D X) = cm_x 140 2 [some (.inr (.inr 0)), some (.inl (a)), some (.inl (D 9 3))] [] (cm_hp D' X) ∧ (∀ b, D' 11 b = if D 15 9 ≤ b ∧ b < D 15 9 + D 9 3 then 7 else D 11 b) ∧ (∀ b, D' 12 b = if D 15 9 ≤ b ∧ b < D 15 9 + D 9 3 then 0 else D 12 b) ∧ D' 15 = cm_u1 (D 15) 9 (D 15 9 + D 9 3) ∧ ∀ x : Nat, x ≠ 11 → x ≠ 12 → x ≠ 15 → D' x = D x := by
  obtain ⟨D', L, P⟩ := lp_inv (X := fun k F => cm_x 140 2 [some (.inr (.inr 0)), some (.inl (a)), some (.inl (k))] [] (cm_hp F X)) (P := fun k F => (∀ b, F 11 b = if D 15 9 ≤ b ∧ b < D 15 9 + k then 7 else D 11 b) ∧ (∀ b, F 12 b = if D 15 9 ≤ b ∧ b < D 15 9 + k then 0 else D 12 b) ∧ F 15 = cm_u1 (D 15) 9 (D 15 9 + k) ∧ ∀ x : Nat, x ≠ 11 → x ≠ 12 → x ≠ 15 → F x = D x) (lo := 0) (hi := D 9 3) (fun k F k0 k1 hP => by
    obtain ⟨p1, p2, p3, p4⟩ := hP
    have e15 : F 15 9 = D 15 9 + k := by rw [p3, u1_eq]
    have e9 := p4 9 (by omega) (by omega) (by omega)
    have e3 : cm_wr (D 15 9 + k + 1) = D 15 9 + (k + 1) := by rw [cm_wr_id (by omega) (by omega)]; omega
    have e2 : cm_wr (k + 1) = k + 1 := cm_wr_id (by omega) (by omega)
    have w : cm_x 24 0 [some (.inr (.inr 9)), some (.inl (D 15 9 + k)), some (.inl (7)), some (.inl (0)), none, none] [] (cm_hp F X) = some (.inl none, cm_hp (cm_up (cm_up F 11 (D 15 9 + k) 7) 12 (D 15 9 + k) 0) X) := by
      rw [sg_X2_write_0, if_neg (by omega), e9, if_pos (by omega), e3, ck_t (by omega), ck_t (by omega)]
      by_cases hf : F 10 (D 15 9 + k) < F 10 (D 15 9 + (k + 1))
      · rw [if_pos hf, if_neg (by omega), if_pos rfl, ck_t (by omega), ck_t (by omega)]
      · rw [if_neg hf, ck_t (by omega), ck_t (by omega)]
    refine ⟨cm_up (cm_up (cm_up F 11 (D 15 9 + k) 7) 12 (D 15 9 + k) 0) 15 9 (D 15 9 + (k + 1)), ?_, fun b => ?_, fun b => ?_, ?_, fun x x1 x2 x3 => ?_⟩
    · show cm_x 140 2 [some (.inr (.inr 0)), some (.inl (a)), some (.inl (k))] [] (cm_hp F X) = _
      have q : (cm_up (cm_up F 11 (D 15 9 + k) 7) 12 (D 15 9 + k) 0) 15 9 = D 15 9 + k := e15
      rw [sg_X8_closeSession_2, e9, if_pos k1, e15, w, aft_n, sg_X8_closeSession_30, q, e2, e3]
    · rw [up_row (by omega), up_row (by omega), up_same]
      by_cases hb : b = D 15 9 + k
      · rw [hb, u1_eq, if_pos (by omega)]
      · rw [u1_ne hb, p1]
        by_cases h2 : D 15 9 ≤ b ∧ b < D 15 9 + k
        · rw [if_pos h2, if_pos (by omega)]
        · rw [if_neg h2, if_neg (by omega)]
    · rw [up_row (by omega), up_same, up_row (by omega)]
      by_cases hb : b = D 15 9 + k
      · rw [hb, u1_eq, if_pos (by omega)]
      · rw [u1_ne hb, p2]
        by_cases h2 : D 15 9 ≤ b ∧ b < D 15 9 + k
        · rw [if_pos h2, if_pos (by omega)]
        · rw [if_neg h2, if_neg (by omega)]
    · rw [up_same, up_row (by omega), up_row (by omega), p3, u1_u1]
    · rw [up_row x3, up_row x2, up_row x1, p4 x x1 x2 x3]) D n0 ⟨fun b => by rw [if_neg (by omega)], fun b => by rw [if_neg (by omega)], by rw [Int.add_zero, u1_id], fun _ _ _ _ => rfl⟩
  refine ⟨D', ?_, P⟩
  rw [sg_X8_closeSession_0]
  exact L
/-- the class closes the session: what is then in mind -/
def clS (a : Int) (S' S : Nat → Int → Int) : Prop := (a ≠ 0 → agS S' S) ∧ (a = 0 → (∀ n, 0 ≤ n → n < 12 → S' 1 n = 0 ∧ S' 2 n = 0 ∧ S' 3 n = 0) ∧ (∀ v, 0 ≤ v → v < 13 → S' 6 v = -1) ∧ S' 0 6 = 0 ∧ S' 0 7 = S 0 7 ∧ S' 0 8 = S 0 8 ∧ S' 0 9 = S 0 9 ∧ S' 0 10 = S 0 10)
theorem ev_closeS {a : Int} (h0 : 0 ≤ D 15 9) (n0 : 0 ≤ D 9 3) (h1 : D 15 9 + D 9 3 ≤ D 9 0) (h4 : D 9 0 ≤ 400) : ∃ D', cm_x 140 0 [some (.inr (.inr 0)), some (.inl (a)), none] [] (cm_hp D X) = some (.inl none, cm_hp D' X) ∧ (∀ b, D' 11 b = if D 15 9 ≤ b ∧ b < D 15 9 + D 9 3 then 7 else D 11 b) ∧ (∀ b, D' 12 b = if D 15 9 ≤ b ∧ b < D 15 9 + D 9 3 then 0 else D 12 b) ∧ clS a (stt D' 15) (hdS (stt D 15) (cm_wr (D 15 8 + 1)) (D 15 9 + D 9 3)) ∧ ∀ x : Nat, x ≠ 11 → x ≠ 12 → (x < 15 ∨ 22 ≤ x) → D' x = D x := by
  obtain ⟨F, r1, p1, p2, p3, p4⟩ := ev_outs (D := D) (X := X) (a := a) h0 n0 h1 h4
  have e9 := p4 9 (by omega) (by omega) (by omega)
  have q8 : F 15 8 = D 15 8 := by rw [p3]; rfl
  have g15 : (cm_up F 15 8 (cm_wr (F 15 8 + 1))) 15 = cm_u1 (cm_u1 (D 15) 9 (D 15 9 + D 9 3)) 8 (cm_wr (D 15 8 + 1)) := by rw [up_same, p3]; rfl
  have gx : ∀ x : Nat, x ≠ 11 → x ≠ 12 → x ≠ 15 → (cm_up F 15 8 (cm_wr (F 15 8 + 1))) x = D x := fun x a b c => by rw [up_row c, p4 x a b c]
  have g11 : (cm_up F 15 8 (cm_wr (F 15 8 + 1))) 11 = F 11 := up_row (by omega)
  have g12 : (cm_up F 15 8 (cm_wr (F 15 8 + 1))) 12 = F 12 := up_row (by omega)
  generalize hG : cm_up F 15 8 (cm_wr (F 15 8 + 1)) = G at g15 gx g11 g12
  by_cases ha : a = 0
  · obtain ⟨D', k1, k2, k3, k4, k5⟩ := ev_drop (D := G) (X := X)
    refine ⟨D', ?_, fun b => ?_, fun b => ?_, ⟨fun z => absurd ha z, fun _ => ⟨k2, k3, ?_, ?_, ?_, ?_, ?_⟩⟩, fun x x1 x2 x3 => ?_⟩
    · rw [r1, sg_X8_closeSession_2, e9, if_neg (by omega), if_pos ha, hG, k1, aft_n, sg_X8_closeSession_73]
    · rw [k5 11 (by omega) (by omega) (by omega) (by omega) (by omega), g11]; exact p1 b
    · rw [k5 12 (by omega) (by omega) (by omega) (by omega) (by omega), g12]; exact p2 b
    · show D' 15 6 = 0
      rw [k4]; rfl
    · show D' 15 7 = _
      rw [k4, g15]; rfl
    · show D' 15 8 = _
      rw [k4, g15]; rfl
    · show D' 15 9 = _
      rw [k4, g15]; rfl
    · show D' 15 10 = _
      rw [k4, g15]; rfl
    · rw [k5 x (by omega) (by omega) (by omega) (by omega) (by omega), gx x x1 x2 (by omega)]
  · refine ⟨G, ?_, fun b => ?_, fun b => ?_, ⟨fun _ => ?_, fun z => absurd z ha⟩, fun x x1 x2 x3 => gx x x1 x2 (by omega)⟩
    · rw [r1, sg_X8_closeSession_2, e9, if_neg (by omega), if_neg ha, hG, sg_X8_closeSession_73]
    · rw [g11]; exact p1 b
    · rw [g12]; exact p2 b
    · have g : ∀ j : Nat, 1 ≤ j → j < 7 → G (15 + j) = D (15 + j) := fun j j0 j1 => gx _ (by omega) (by omega) (by omega)
      refine ⟨fun n _ _ => ⟨?_, ?_, ?_⟩, fun k _ _ => ⟨?_, ?_⟩, fun v _ _ => ?_, ?_, ?_, ?_, ?_, ?_⟩
      · show G 16 n = D 16 n
        rw [g 1 (by omega) (by omega)]
      · show G 17 n = D 17 n
        rw [g 2 (by omega) (by omega)]
      · show G 18 n = D 18 n
        rw [g 3 (by omega) (by omega)]
      · show G 19 k = D 19 k
        rw [g 4 (by omega) (by omega)]
      · show G 20 k = D 20 k
        rw [g 5 (by omega) (by omega)]
      · show G 21 v = D 21 v
        rw [g 6 (by omega) (by omega)]
      · show G 15 6 = D 15 6
        rw [g15]; rfl
      · show G 15 7 = D 15 7
        rw [g15]; rfl
      · show G 15 8 = _
        rw [g15]; rfl
      · show G 15 9 = _
        rw [g15]; rfl
      · show G 15 10 = D 15 10
        rw [g15]; rfl
/-- the reference writes the blocks between sessions -/
theorem ev_mOuts {a h : Int} (hh : E 617 244 = h) (h0 : 0 ≤ h) (n0 : 0 ≤ E 614 3) (h1 : h + E 614 3 ≤ 400) : ∃ E', cm_x 255 0 [some (.inr (.inr 613)), some (.inl (a)), none] [] (cm_hp E X) = cm_x 255 2 [some (.inr (.inr 613)), some (.inl (a)), some (.inl (E 614 3))] [] (cm_hp E' X) ∧ (∀ b, E' 619 b = if h ≤ b ∧ b < h + E 614 3 then 7 else E 619 b) ∧ E' 617 = cm_u1 (E 617) 244 (h + E 614 3) ∧ (∀ j, j ≠ 27 → E' 613 j = E 613 j) ∧ ∀ x : Nat, x ≠ 613 → x ≠ 617 → x ≠ 619 → E' x = E x := by
  obtain ⟨E', L, P⟩ := lp_inv (X := fun k F => cm_x 255 2 [some (.inr (.inr 613)), some (.inl (a)), some (.inl (k))] [] (cm_hp F X)) (P := fun k F => (∀ b, F 619 b = if h ≤ b ∧ b < h + k then 7 else E 619 b) ∧ F 617 = cm_u1 (E 617) 244 (h + k) ∧ (∀ j, j ≠ 27 → F 613 j = E 613 j) ∧ ∀ x : Nat, x ≠ 613 → x ≠ 617 → x ≠ 619 → F x = E x) (lo := 0) (hi := E 614 3) (fun k F k0 k1 hP => by
    obtain ⟨p1, p2, p3, p4⟩ := hP
    have e17 : F 617 244 = h + k := by rw [p2, u1_eq]
    have e14 := p4 614 (by omega) (by omega) (by omega)
    have e3 : cm_wr (h + k + 1) = h + (k + 1) := by rw [cm_wr_id (by omega) (by omega)]; omega
    have e2 : cm_wr (k + 1) = k + 1 := cm_wr_id (by omega) (by omega)
    refine ⟨cm_up (cm_up (cm_up F 619 (h + k) 7) 617 244 (h + (k + 1))) 613 27 (cm_wr (F 613 27 + 1)), ?_, fun b => ?_, ?_, fun j hj => ?_, fun x x1 x2 x3 => ?_⟩
    · show cm_x 255 2 [some (.inr (.inr 613)), some (.inl (a)), some (.inl (k))] [] (cm_hp F X) = _
      rw [sg_X9_closeNow_2, e14, if_pos k1, sg_X9_putBlock_0, e17, ck_t (by omega), aft_n, sg_X9_closeNow_18, e2, e3]
    · rw [up_row (by omega), up_row (by omega), up_same]
      by_cases hb : b = h + k
      · rw [hb, u1_eq, if_pos (by omega)]
      · rw [u1_ne hb, p1]
        by_cases h2 : h ≤ b ∧ b < h + k
        · rw [if_pos h2, if_pos (by omega)]
        · rw [if_neg h2, if_neg (by omega)]
    · rw [up_row (by omega), up_same, up_row (by omega), p2, u1_u1]
    · rw [up_same, u1_ne hj, up_row (by omega), up_row (by omega), p3 j hj]
    · rw [up_row x1, up_row x2, up_row x3, p4 x x1 x2 x3]) E n0 ⟨fun b => by rw [if_neg (by omega)], by rw [Int.add_zero, ← hh, u1_id], fun _ _ => rfl, fun _ _ _ _ => rfl⟩
  refine ⟨E', ?_, P⟩
  rw [sg_X9_closeNow_0]
  exact L
/-- the reference closes the session: its numbers then -/
def clM (a : Int) (f g : Int → Int) : Prop := (a ≠ 0 → f = g) ∧ (a = 0 → nfQ f g)
theorem ev_mClose {a h : Int} (hh : E 617 244 = h) (h0 : 0 ≤ h) (n0 : 0 ≤ E 614 3) (h1 : h + E 614 3 ≤ 400) : ∃ E', cm_x 255 0 [some (.inr (.inr 613)), some (.inl (a)), none] [] (cm_hp E X) = some (.inl none, cm_hp E' X) ∧ (∀ b, E' 619 b = if h ≤ b ∧ b < h + E 614 3 then 7 else E 619 b) ∧ clM a (E' 617) (cm_u1 (cm_u1 (E 617) 243 (cm_wr (E 617 243 + 1))) 244 (h + E 614 3)) ∧ (∀ j, j ≠ 27 → E' 613 j = E 613 j) ∧ ∀ x : Nat, x ≠ 613 → x ≠ 617 → x ≠ 619 → E' x = E x := by
  obtain ⟨F, r1, p1, p2, p3, p4⟩ := ev_mOuts (E := E) (X := X) (a := a) hh h0 n0 h1
  have e14 := p4 614 (by omega) (by omega) (by omega)
  have q : F 617 243 = E 617 243 := by rw [p2]; rfl
  have g17 : (cm_up F 617 243 (cm_wr (F 617 243 + 1))) 617 = cm_u1 (cm_u1 (E 617) 243 (cm_wr (E 617 243 + 1))) 244 (h + E 614 3) := by
    rw [up_same, p2]
    funext j
    unfold cm_u1
    by_cases j3 : j = 243
    · rw [if_pos j3, if_neg (by omega), if_pos j3, if_neg (by omega)]
    · rw [if_neg j3, if_neg j3]
  have gx : ∀ x : Nat, x ≠ 617 → (cm_up F 617 243 (cm_wr (F 617 243 + 1))) x = F x := fun x a => by rw [up_row a]
  generalize hG : cm_up F 617 243 (cm_wr (F 617 243 + 1)) = G at g17 gx
  by_cases ha : a = 0
  · obtain ⟨f, k1, k2⟩ := ev_noFiles (E := G) (X := X)
    refine ⟨cm_ua G 617 f, ?_, fun b => ?_, ⟨fun z => absurd ha z, fun _ => ?_⟩, fun j hj => ?_, fun x x1 x2 x3 => ?_⟩
    · rw [r1, sg_X9_closeNow_2, e14, if_neg (by omega), if_pos ha, hG, k1, aft_n, sg_X9_closeNow_47]
    · rw [ua_row (by omega), gx _ (by omega)]; exact p1 b
    · rw [ua_same, ← g17]; exact k2
    · rw [ua_row (by omega), gx _ (by omega)]; exact p3 j hj
    · rw [ua_row (by omega), gx _ (by omega)]; exact p4 x x1 x2 x3
  · refine ⟨G, ?_, fun b => ?_, ⟨fun _ => g17, fun z => absurd z ha⟩, fun j hj => ?_, fun x x1 x2 x3 => ?_⟩
    · rw [r1, sg_X9_closeNow_2, e14, if_neg (by omega), if_neg ha, hG, sg_X9_closeNow_47]
    · rw [gx _ (by omega)]; exact p1 b
    · rw [gx _ (by omega)]; exact p3 j hj
    · rw [gx _ (by omega)]; exact p4 x x1 x2 x3
/-- both have closed the session: what is in mind is alike -/
theorem cl_R {S' : Nat → Int → Int} {f : Int → Int} {a e m : Int} (hc : clS a S' (hdS S e m)) (hf : clM a f (cm_u1 (cm_u1 r 243 e) 244 m)) (hm : S 0 9 ≤ m) (hr : rS S r) (hw : wS pk K B S) : rS S' f ∧ wS pk K B S' := by
  have hr' := rS_hd (e := e) (m := m) hw.1 hr
  have hw' := wS_hd (e := e) hm hw
  by_cases ha : a = 0
  · obtain ⟨c1, c2, c3, c4, c5, c6, c7⟩ := hc.2 ha
    obtain ⟨f1, f2, f3, f4⟩ := hf.2 ha
    refine dr_R c1 c2 c3 f1 f2 f3 ?_ ?_ ?_ ?_ ?_ ?_ ?_
    · rw [f4 _ (by omega), c4]; exact hr'.2.2.2.2.1
    · rw [f4 _ (by omega), c5]; exact hr'.2.2.2.2.2.1
    · rw [f4 _ (by omega), c6]; exact hr'.2.2.2.2.2.2.1
    · rw [f4 _ (by omega), c7]; exact hr'.2.2.2.2.2.2.2
    · rw [c4, c6]; exact hw'.2.1.2.1
    · rw [c6]; exact hw'.2.1.1
    · rw [c7]; exact hw'.2.2
  · rw [hf.1 ha]
    exact ⟨rS_ag (hc.1 ha) hw'.1 hr', wS_ag (hc.1 ha) hw'⟩
