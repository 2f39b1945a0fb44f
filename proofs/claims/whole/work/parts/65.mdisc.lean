/-! the model's looks at the disc -/
variable {D : Nat → Int → Int} {X : cm_X} {K B : Int → Int} {h pk : Int}
def mdOk (D : Nat → Int → Int) (h : Int) : Prop := gOk (D 614 1) (D 619) (D 620) h ∧ D 617 244 = h ∧ 2 ≤ D 614 1 ∧ D 614 1 ≤ 16
theorem ev_mKind (hd : mdOk D h) {b : Int} (h0 : 0 ≤ b) : cm_x 184 0 [some (.inr (.inr 613)), some (.inl (b))] [] (cm_hp D X) = some (.inl (some (.inl (if b < h then D 619 b else 0))), cm_hp D X) := by
  have hh := hd.1.2.2.2
  rw [sg_X9_kindOf_0, hd.2.1]
  by_cases h1 : b < h
  · rw [if_pos h1, if_pos h1, ck_t (by omega)]
  · rw [if_neg h1, if_neg h1]
theorem ev_mTells {b i : Int} (h0 : 0 ≤ b) (h1 : b < 400) (h2 : 0 ≤ i) (h3 : i < 15) : cm_x 185 0 [some (.inr (.inr 613)), some (.inl (b)), some (.inl (i))] [] (cm_hp D X) = some (.inl (some (.inl (D 620 (15 * b + i)))), cm_hp D X) := by
  have e1 : cm_wr (15 * b) = 15 * b := cm_wr_id (by omega) (by omega)
  have e2 : cm_wr (15 * b + i) = 15 * b + i := cm_wr_id (by omega) (by omega)
  rw [sg_X9_tellsAt_0, e1, e2, ck_t (by omega)]
theorem ev_mGood (hd : mdOk D h) {b : Int} (h0 : 0 ≤ b) (h1 : b < h) : cm_x 186 0 [some (.inr (.inr 613)), some (.inl (b)), none] [] (cm_hp D X) = some (.inl (some (.inl (tv (goodM (D 619) (D 614 1) b)))), cm_hp D X) := by
  have hh := hd.1.2.2.2
  have hp := hd.2.2
  rw [sg_X9_isGood_0, ev_mKind hd h0, aft_v, if_pos h1, sg_X9_isGood_5]
  by_cases hk : D 619 b = 6
  · have hb := (hd.1.2.1 b h0 h1 hk).1
    rw [if_pos hk]
    have L := lp_exi (lo := 0) (hi := D 614 1) (X := fun j => cm_x 186 14 [some (.inr (.inr 613)), some (.inl (b)), some (.inl (j))] [] (cm_hp D X)) (p := fun j => D 619 (b - j) = 8) (T := some (.inl (some (.inl (0))), cm_hp D X)) (F := some (.inl (some (.inl (1))), cm_hp D X)) (by omega) (fun j a1 a2 => by
      have e : cm_wr (j + 1) = j + 1 := cm_wr_id (by omega) (by omega)
      have e1 : cm_wr (b - j) = b - j := cm_wr_id (by omega) (by omega)
      refine ⟨fun hp => ?_, fun hp => ?_⟩
      · show cm_x 186 14 [some (.inr (.inr 613)), some (.inl (b)), some (.inl (j))] [] (cm_hp D X) = _
        rw [sg_X9_isGood_14, if_pos a2, e1, ev_mKind hd (by omega), aft_v, if_pos (by omega), sg_X9_isGood_31, if_pos hp]
      · show cm_x 186 14 [some (.inr (.inr 613)), some (.inl (b)), some (.inl (j))] [] (cm_hp D X) = cm_x 186 14 [some (.inr (.inr 613)), some (.inl (b)), some (.inl (j + 1))] [] (cm_hp D X)
        rw [sg_X9_isGood_14, if_pos a2, e1, ev_mKind hd (by omega), aft_v, if_pos (by omega), sg_X9_isGood_31, if_neg hp, e]) (by
      show cm_x 186 14 [some (.inr (.inr 613)), some (.inl (b)), some (.inl (D 614 1))] [] (cm_hp D X) = _
      rw [sg_X9_isGood_14, if_neg (by omega)])
    by_cases hx : ∃ j, 0 ≤ j ∧ j < D 614 1 ∧ D 619 (b - j) = 8
    · rw [tv_f]
      · exact L.1 hx
      · rintro ⟨-, g⟩
        obtain ⟨j, a1, a2, a3⟩ := hx
        exact g j a1 a2 a3
    · rw [tv_t]
      · exact L.2 hx
      · exact ⟨hk, fun k k0 k1 k2 => hx ⟨k, k0, k1, k2⟩⟩
  · rw [if_neg hk, tv_f (fun g => hk g.1)]
theorem ev_mLast (hd : mdOk D h) {x : Int} (h0 : 0 ≤ x) : cm_x 187 0 [some (.inr (.inr 613)), some (.inl (x)), none] [] (cm_hp D X) = some (.inl (some (.inl (lgM (D 619) (D 614 1) (cm_mn x h).toNat))), cm_hp D X) := by
  have hh := hd.1.2.2.2
  have hh0 := hd.1.2.2.1
  have key : ∀ n : Nat, (n : Int) ≤ h → cm_x 187 15 [some (.inr (.inr 613)), some (.inl (x)), some (.inl (n - 1))] [] (cm_hp D X) = some (.inl (some (.inl (lgM (D 619) (D 614 1) n))), cm_hp D X) := by
    intro n
    induction n with
    | zero => intro _; rw [sg_X9_lastGood_15, if_pos (by omega)]; rfl
    | succ n ih =>
      intro hn
      have ih := ih (by omega)
      have e : (((n + 1 : Nat) : Int) - 1) = n := by omega
      have e2 : cm_wr ((n : Int) + -1) = (n : Int) - 1 := cm_wr_id (by omega) (by omega)
      rw [e, sg_X9_lastGood_15, if_neg (by omega), ev_mGood hd (by omega) (by omega), aft_v, sg_X9_lastGood_24, e2, ih]
      show _ = (some (.inl (some (.inl (if tv (goodM (D 619) (D 614 1) n) = 0 then lgM (D 619) (D 614 1) n else n))), cm_hp D X) : cm_R)
      by_cases hg : tv (goodM (D 619) (D 614 1) n) = 0
      · rw [if_pos hg, if_pos hg]
      · rw [if_neg hg, if_neg hg]
  have hm : 0 ≤ cm_mn x h ∧ cm_mn x h ≤ h := by
    by_cases h1 : x ≤ h
    · rw [mn_l h1]; omega
    · rw [mn_r (by omega)]; omega
  have e3 : cm_wr (cm_mn x h - 1) = cm_mn x h - 1 := cm_wr_id (by omega) (by omega)
  rw [sg_X9_lastGood_0, hd.2.1, e3]
  have := key (cm_mn x h).toNat (by omega)
  rw [show (((cm_mn x h).toNat : Nat) : Int) = cm_mn x h by omega] at this
  exact this
theorem ev_mGoodMaps (hd : mdOk D h) : cm_x 215 0 [some (.inr (.inr 613)), none, none] [] (cm_hp D X) = some (.inl (some (.inl (smw (fun b => tv (goodM (D 619) (D 614 1) b)) h.toNat))), cm_hp D X) := by
  have hh := hd.1.2.2.2
  have hh0 := hd.1.2.2.1
  rw [sg_X9_goodMaps_0]
  have L := lp_cnt (n := h.toNat) (f := fun b => tv (goodM (D 619) (D 614 1) b)) (X := fun i a => cm_x 215 4 [some (.inr (.inr 613)), some (.inl (a)), some (.inl (i))] [] (cm_hp D X)) (by omega) (fun i _ _ => tv_bb _) (fun i a h1 h2 a1 a2 => by
    show cm_x 215 4 [some (.inr (.inr 613)), some (.inl (a)), some (.inl (i))] [] (cm_hp D X) = cm_x 215 4 [some (.inr (.inr 613)), some (.inl (a + tv (goodM (D 619) (D 614 1) i))), some (.inl (i + 1))] [] (cm_hp D X)
    have e : cm_wr (i + 1) = i + 1 := cm_wr_id (by omega) (by omega)
    have e1 : cm_wr (a + 1) = a + 1 := cm_wr_id (by omega) (by omega)
    have e2 : cm_wr (a + 0) = a + 0 := cm_wr_id (by omega) (by omega)
    rw [sg_X9_goodMaps_4, hd.2.1, if_pos (by omega), ev_mGood hd (by omega) (by omega), aft_v, sg_X9_goodMaps_22, e, e1, e2]
    by_cases hg : goodM (D 619) (D 614 1) i
    · rw [tv_t hg, if_neg (by omega)]
    · rw [tv_f hg, if_pos rfl])
  refine Eq.trans L ?_
  show cm_x 215 4 [some (.inr (.inr 613)), some (.inl (smw (fun b => tv (goodM (D 619) (D 614 1) b)) h.toNat)), some (.inl (((h.toNat : Nat) : Int)))] [] (cm_hp D X) = _
  rw [sg_X9_goodMaps_4, hd.2.1, if_neg (by omega)]
theorem ev_mAlong (hd : mdOk D h) {x : Int} (hm : mpO (D 619) (D 614 1) h x) {k : Int} (hk0 : 0 ≤ k) (hk : k < 2147483648) : cm_x 188 0 [some (.inr (.inr 613)), some (.inl (x)), some (.inl (k)), none, none] [] (cm_hp D X) = some (.inl (some (.inl (alg (D 620) k.toNat x))), cm_hp D X) := by
  have hh := hd.1.2.2.2
  rw [sg_X9_along_0]
  have key : ∀ (n : Nat) (j m : Int), 0 ≤ j → j + n = k → mpO (D 619) (D 614 1) h m → cm_x 188 5 [some (.inr (.inr 613)), some (.inl (x)), some (.inl (k)), some (.inl (m)), some (.inl (j))] [] (cm_hp D X) = some (.inl (some (.inl (alg (D 620) n m))), cm_hp D X) := by
    intro n
    induction n with
    | zero =>
      intro j m j0 jk _
      rw [sg_X9_along_5, if_neg (by omega)]
      rfl
    | succ n ih =>
      intro j m j0 jk hm
      have e : cm_wr (j + 1) = j + 1 := cm_wr_id (by omega) (by omega)
      rw [sg_X9_along_5, if_pos (by omega)]
      unfold alg
      by_cases hn : m = -1
      · rw [if_pos hn, if_pos hn, hn]
      · obtain ⟨⟨m0, m1⟩, mk, mo⟩ := mp_map hd.1 hm hn
        rw [if_neg hn, if_neg hn, ev_mTells m0 (by omega) (by omega) (by omega), aft_v, sg_X9_along_23, e]
        exact ih (j + 1) _ (by omega) (by omega) (mp_prev hd.1 hm hn).1
  have := key k.toNat 0 x (by omega) (by omega) hm
  exact this
theorem ev_mapBack (hd : mdOk D h) (hm : mpO (D 619) (D 614 1) h (D 617 242)) {k : Int} (hk : k < 2147483648) : cm_x 229 0 [some (.inr (.inr 613)), some (.inl (k))] [] (cm_hp D X) = some (.inl (some (.inl (if k < 0 then -1 else alg (D 620) k.toNat (D 617 242)))), cm_hp D X) := by
  rw [sg_X9_mapBack_0]
  by_cases h0 : k < 0
  · rw [if_pos h0, if_pos h0, sg_X9_mapBack_27_1]
  · have hb : 0 ≤ cm_mn k 400 ∧ cm_mn k 400 ≤ 400 := by
      by_cases h1 : k ≤ 400
      · rw [mn_l h1]; omega
      · rw [mn_r (by omega)]; omega
    rw [if_neg h0, if_neg h0, ev_mAlong hd hm hb.1 (by omega), aft_v, sg_X9_mapBack_27, ← alg_cut hd.1 hm]
theorem ev_mChain (hd : mdOk D h) (hm : mpO (D 619) (D 614 1) h (D 617 242)) : cm_x 216 0 [some (.inr (.inr 613)), none, none] [] (cm_hp D X) = some (.inl (some (.inl (chL (D 620) 400 (D 617 242)))), cm_hp D X) := by
  have hh := hd.1.2.2.2
  rw [sg_X9_chain_0]
  have key : ∀ (n : Nat) (a m : Int), 0 ≤ a → a + n = 400 → m < n → mpO (D 619) (D 614 1) h m → cm_x 216 11 [some (.inr (.inr 613)), some (.inl (a)), some (.inl (m))] [] (cm_hp D X) = some (.inl (some (.inl (a + chL (D 620) n m))), cm_hp D X) := by
    intro n
    induction n with
    | zero =>
      intro a m a0 ak ml hm
      rcases hm with hm | ⟨⟨m0, -⟩, -⟩
      · rw [sg_X9_chain_11, if_pos hm]
        show _ = (some (.inl (some (.inl (a + 0))), cm_hp D X) : cm_R)
        rw [Int.add_zero]
      · omega
    | succ n ih =>
      intro a m a0 ak ml hm
      have e : cm_wr (a + 1) = a + 1 := cm_wr_id (by omega) (by omega)
      rw [sg_X9_chain_11]
      unfold chL
      by_cases hn : m = -1
      · rw [if_pos hn, if_pos hn, Int.add_zero]
      · obtain ⟨⟨m0, m1⟩, mk, mo⟩ := mp_map hd.1 hm hn
        have hp := mp_prev hd.1 hm hn
        rw [if_neg hn, if_neg hn, ev_mTells m0 (by omega) (by omega) (by omega), aft_v, sg_X9_chain_26, e, ih (a + 1) _ (by omega) (by omega) (by omega) hp.1, Int.add_assoc]
  have hl : D 617 242 < 400 := by rcases hm with hm | ⟨⟨_, _⟩, _⟩ <;> omega
  have := key 400 0 _ (by omega) (by omega) (by omega) hm
  rw [Int.zero_add] at this
  exact this
theorem ev_mEntryBy (hd : mdOk D h) {m : Int} (hm : mpO (D 619) (D 614 1) h m) (hn : m ≠ -1) {n : Int} (n0 : 0 ≤ n) (n1 : n < 12) : cm_x 189 0 [some (.inr (.inr 613)), some (.inl (m)), some (.inl (n)), none, none] [] (cm_hp D X) = some (.inl (some (.inl (mEnt (D 620) m n))), cm_hp D X) := by
  have hh := hd.1.2.2.2
  obtain ⟨⟨m0, m1⟩, mk, md, me, -, -⟩ := mp_map hd.1 hm hn
  rw [sg_X9_entryBy_0, ev_mTells m0 (by omega) (by omega) (by omega), aft_v, Int.add_zero, sg_X9_entryBy_6]
  unfold mEnt
  by_cases h1 : D 620 (15 * m) = -1
  · rw [if_pos h1, if_pos h1, sg_X9_entryBy_22_1, sg_X9_entryBy_41_1]
  · rw [if_neg h1, if_neg h1]
    rcases md with md | ⟨⟨d0, d1⟩, dk, dv, -⟩
    · exact absurd md h1
    · rw [ev_mTells d0 (by omega) n0 (by omega), aft_v, sg_X9_entryBy_22]
      by_cases h2 : D 620 (15 * D 620 (15 * m) + n) = -1
      · rw [if_pos h2, if_pos h2, sg_X9_entryBy_41_1]
      · rcases dv n n0 n1 with dv | ⟨v0, v1⟩
        · exact absurd dv h2
        · rw [if_neg h2, if_neg h2, ev_mTells m0 (by omega) (by omega) (by omega), aft_v, sg_X9_entryBy_41]
theorem ev_mMany {e : Int} (e0 : 0 ≤ e) (e1 : e < 400) : cm_x 190 0 [some (.inr (.inr 613)), some (.inl (e))] [] (cm_hp D X) = some (.inl (some (.inl (D 620 (15 * e + 8)))), cm_hp D X) := by
  rw [sg_X9_manyBy_0, ev_mTells e0 e1 (by omega) (by omega), aft_v, sg_X9_manyBy_7]
theorem ev_mCellBy (hd : mdOk D h) {e m : Int} (he : entOk (D 619) (D 620) e m) (hm : m ≤ h) {c : Int} (c0 : 0 ≤ c) (c1 : c < D 620 (15 * e + 8)) : cm_x 191 0 [some (.inr (.inr 613)), some (.inl (e)), some (.inl (c))] [] (cm_hp D X) = some (.inl (some (.inl (mCel (D 620) e c))), cm_hp D X) := by
  have hh := hd.1.2.2.2
  have hl := ent_len hd.1 he hm
  obtain ⟨⟨e0, e1⟩, ek, ec⟩ := he
  obtain ⟨⟨x0, x1⟩, xk⟩ := ec c c0 c1
  rw [sg_X9_cellBy_0, ev_mTells e0 (by omega) c0 (by omega), aft_v, sg_X9_cellBy_7, ev_mTells x0 (by omega) (by omega) (by omega), aft_v, sg_X9_cellBy_11, Int.add_zero]
  rfl
theorem ev_mAlike (hd : mdOk D h) {e o m m2 : Int} (he : entOk (D 619) (D 620) e m) (hm : m ≤ h) (ho : entOk (D 619) (D 620) o m2) (hm2 : m2 ≤ h) : cm_x 231 0 [some (.inr (.inr 613)), some (.inl (e)), some (.inl (o)), none] [] (cm_hp D X) = some (.inl (some (.inl (tv (alk (D 620) e o)))), cm_hp D X) := by
  have hh := hd.1.2.2.2
  have hl := ent_len hd.1 he hm
  have e1 := he.1
  have o1 := ho.1
  rw [sg_X9_areAlike_0, ev_mMany (by omega) (by omega), aft_v, sg_X9_areAlike_5, ev_mMany (by omega) (by omega), aft_v, sg_X9_areAlike_10]
  by_cases h1 : D 620 (15 * e + 8) = D 620 (15 * o + 8)
  · rw [if_pos h1]
    have L := lp_exi (lo := 0) (hi := D 620 (15 * e + 8)) (X := fun j => cm_x 231 17 [some (.inr (.inr 613)), some (.inl (e)), some (.inl (o)), some (.inl (j))] [] (cm_hp D X)) (p := fun c => mCel (D 620) e c ≠ mCel (D 620) o c) (T := some (.inl (some (.inl (0))), cm_hp D X)) (F := some (.inl (some (.inl (1))), cm_hp D X)) (by omega) (fun j a1 a2 => by
      have ee : cm_wr (j + 1) = j + 1 := cm_wr_id (by omega) (by omega)
      refine ⟨fun hp => ?_, fun hp => ?_⟩
      · show cm_x 231 17 [some (.inr (.inr 613)), some (.inl (e)), some (.inl (o)), some (.inl (j))] [] (cm_hp D X) = _
        rw [sg_X9_areAlike_17, ev_mMany (by omega) (by omega), aft_v, sg_X9_areAlike_23, if_pos a2, ev_mCellBy hd he hm a1 a2, aft_v, sg_X9_areAlike_32, ev_mCellBy hd ho hm2 a1 (by omega), aft_v, sg_X9_areAlike_38, if_neg hp]
      · show cm_x 231 17 [some (.inr (.inr 613)), some (.inl (e)), some (.inl (o)), some (.inl (j))] [] (cm_hp D X) = cm_x 231 17 [some (.inr (.inr 613)), some (.inl (e)), some (.inl (o)), some (.inl (j + 1))] [] (cm_hp D X)
        rw [sg_X9_areAlike_17, ev_mMany (by omega) (by omega), aft_v, sg_X9_areAlike_23, if_pos a2, ev_mCellBy hd he hm a1 a2, aft_v, sg_X9_areAlike_32, ev_mCellBy hd ho hm2 a1 (by omega), aft_v, sg_X9_areAlike_38, if_pos (Classical.not_not.mp hp), ee]) (by
      show cm_x 231 17 [some (.inr (.inr 613)), some (.inl (e)), some (.inl (o)), some (.inl (D 620 (15 * e + 8)))] [] (cm_hp D X) = _
      rw [sg_X9_areAlike_17, ev_mMany (by omega) (by omega), aft_v, sg_X9_areAlike_23, if_neg (by omega)])
    by_cases hx : ∃ c, 0 ≤ c ∧ c < D 620 (15 * e + 8) ∧ mCel (D 620) e c ≠ mCel (D 620) o c
    · rw [tv_f]
      · exact L.1 hx
      · rintro ⟨-, g⟩
        obtain ⟨j, a1, a2, a3⟩ := hx
        exact a3 (g j a1 a2)
    · rw [tv_t]
      · exact L.2 hx
      · exact ⟨h1, fun c c0 c1 => Classical.not_not.mp fun hc => hx ⟨c, c0, c1, hc⟩⟩
  · rw [if_neg h1, tv_f (fun g => h1 g.1)]
theorem ev_mBad (hd : mdOk D h) : cm_x 218 0 [some (.inr (.inr 613)), none, none] [] (cm_hp D X) = some (.inl (some (.inl (smw (fun b => tv (D 619 b = 8)) h.toNat))), cm_hp D X) := by
  have hh := hd.1.2.2.2
  have hh0 := hd.1.2.2.1
  rw [sg_X9_badMany_0]
  have L := lp_cnt (n := h.toNat) (f := fun b => tv (D 619 b = 8)) (X := fun i a => cm_x 218 4 [some (.inr (.inr 613)), some (.inl (a)), some (.inl (i))] [] (cm_hp D X)) (by omega) (fun i _ _ => tv_bb _) (fun i a h1 h2 a1 a2 => by
    show cm_x 218 4 [some (.inr (.inr 613)), some (.inl (a)), some (.inl (i))] [] (cm_hp D X) = cm_x 218 4 [some (.inr (.inr 613)), some (.inl (a + tv (D 619 i = 8))), some (.inl (i + 1))] [] (cm_hp D X)
    have e : cm_wr (i + 1) = i + 1 := cm_wr_id (by omega) (by omega)
    have e1 : cm_wr (a + 1) = a + 1 := cm_wr_id (by omega) (by omega)
    have e2 : cm_wr (a + 0) = a + 0 := cm_wr_id (by omega) (by omega)
    rw [sg_X9_badMany_4, hd.2.1, if_pos (by omega), ck_t (by omega), e, e1, e2]
    by_cases hg : D 619 i = 8
    · rw [tv_t hg, if_pos hg]
    · rw [tv_f hg, if_neg hg])
  refine Eq.trans L ?_
  show cm_x 218 4 [some (.inr (.inr 613)), some (.inl (smw (fun b => tv (D 619 b = 8)) h.toNat)), some (.inl (((h.toNat : Nat) : Int)))] [] (cm_hp D X) = _
  rw [sg_X9_badMany_4, hd.2.1, if_neg (by omega)]
/-! what is met from a map: the model's look -/
abbrev ua25 (D : Nat → Int → Int) (g : Int → Int) : Nat → Int → Int := cm_ua D 625 g
theorem md_ua {g : Int → Int} (hd : mdOk D h) : mdOk (ua25 D g) h := hd
def gM (g : Int → Int) (S : Int → Prop) : Prop := ∀ b, 0 ≤ b → b < 400 → (g b ≠ 0 ↔ S b)
theorem gM_st {g : Int → Int} {S S' : Int → Prop} {x : Int} (hg : gM g S) (hS : ∀ b, 0 ≤ b → (S' b ↔ S b ∨ b = x)) : gM (cm_u1 g x 1) S' := by
  intro b b0 b1
  have g1 := hg b b0 b1
  rw [hS b b0]
  unfold cm_u1
  by_cases h2 : b = x
  · rw [if_pos h2]
    exact ⟨fun _ => Or.inr h2, fun _ => by omega⟩
  · rw [if_neg h2, g1]
    exact ⟨Or.inl, fun z => z.resolve_right h2⟩
theorem gM_no {g : Int → Int} {S S' : Int → Prop} (hg : gM g S) (hS : ∀ b, 0 ≤ b → (S' b ↔ S b)) : gM g S' := by
  intro b b0 b1
  rw [hS b b0]
  exact hg b b0 b1
theorem ua_self : ua25 D (D 625) = D := by
  funext a j
  unfold ua25
  rw [ua_at]
  by_cases ha : a = 625
  · rw [if_pos ha, ha]
  · rw [if_neg ha]
theorem ev_meet (hd : mdOk D h) {m : Int} (hm : mpO (D 619) (D 614 1) h m) : ∃ g, cm_x 214 0 [some (.inr (.inr 613)), some (.inl (m)), none, none, none] [] (cm_hp D X) = some (.inl none, cm_hp (ua25 D g) X) ∧ gM g (rch (D 620) m) := by
  have hh := hd.1.2.2.2
  rw [sg_X9_meet_0]
  obtain ⟨g0, L0, P0⟩ := lp_inv (X := fun b g => cm_x 214 2 [some (.inr (.inr 613)), some (.inl (m)), some (.inl (b)), none, none] [] (cm_hp (ua25 D g) X)) (P := fun b g => ∀ j, 0 ≤ j → j < b → g j = 0) (lo := 0) (hi := 400) (fun b g b0 b1 hP => by
    refine ⟨cm_u1 g b 0, ?_, ?_⟩
    · show cm_x 214 2 [some (.inr (.inr 613)), some (.inl (m)), some (.inl (b)), none, none] [] (cm_hp (ua25 D g) X) = cm_x 214 2 [some (.inr (.inr 613)), some (.inl (m)), some (.inl (b + 1)), none, none] [] (cm_hp (ua25 D (cm_u1 g b 0)) X)
      have e : cm_wr (b + 1) = b + 1 := cm_wr_id (by omega) (by omega)
      rw [sg_X9_meet_2, if_pos b1, ck_t (by omega), e, up_ua]
    · intro j j0 j1
      unfold cm_u1
      by_cases hj : j = b
      · rw [if_pos hj]
      · rw [if_neg hj]; exact hP j j0 (by omega)) (D 625) (by omega) (fun j j0 j1 => by omega)
  have L0 : cm_x 214 2 [some (.inr (.inr 613)), some (.inl (m)), some (.inl (0)), none, none] [] (cm_hp D X) = cm_x 214 2 [some (.inr (.inr 613)), some (.inl (m)), some (.inl (400)), none, none] [] (cm_hp (ua25 D g0) X) := by
    have := L0
    rw [ua_self] at this
    exact this
  rw [L0, sg_X9_meet_2, if_neg (by omega)]
  have hz : gM g0 (fun _ => False) := fun b b0 b1 => ⟨fun z => z (P0 b b0 b1), False.elim⟩
  by_cases hn : m = -1
  · refine ⟨g0, by rw [if_pos hn], gM_no hz (fun b b0 => ⟨?_, False.elim⟩)⟩
    rintro (a | ⟨v, a1, a2, a3⟩ | ⟨n, a1, a2, a3, -⟩)
    · omega
    · unfold tl at a3; rw [if_pos hn] at a3; omega
    · unfold en at a3; rw [if_pos hn] at a3; exact a3 rfl
  · obtain ⟨⟨m0, m1⟩, mk, md, me, -, -⟩ := mp_map hd.1 hm hn
    have et : ∀ v, tl (D 620) m v = D 620 (15 * m + v) := fun v => if_neg hn
    have ee : ∀ n, en (D 620) m n = mEnt (D 620) m n := fun n => if_neg hn
    rw [if_neg hn, ck_t (by omega), up_ua]
    have i1 : gM (cm_u1 g0 m 1) (fun b => b = m) := gM_st hz (fun b _ => by simp)
    obtain ⟨g1, L1, P1⟩ := lp_inv (X := fun v g => cm_x 214 37 [some (.inr (.inr 613)), some (.inl (m)), some (.inl (v)), none, none] [] (cm_hp (ua25 D g) X)) (P := fun v g => gM g (fun b => b = m ∨ ∃ v', 0 ≤ v' ∧ v' < v ∧ tl (D 620) m v' = b)) (lo := 0) (hi := 13) (fun v g v0 v1 hP => by
      have e : cm_wr (v + 1) = v + 1 := cm_wr_id (by omega) (by omega)
      have hb := tl_b hd.1 hm v0 v1
      rw [et v] at hb
      by_cases hv : D 620 (15 * m + v) = -1
      · refine ⟨g, ?_, gM_no hP (fun b b0 => ⟨?_, ?_⟩)⟩
        · show cm_x 214 37 [some (.inr (.inr 613)), some (.inl (m)), some (.inl (v)), none, none] [] (cm_hp (ua25 D g) X) = cm_x 214 37 [some (.inr (.inr 613)), some (.inl (m)), some (.inl (v + 1)), none, none] [] (cm_hp (ua25 D g) X)
          have q : ua25 D g 620 = D 620 := rfl
          rw [sg_X9_meet_37, if_pos v1, ev_mTells m0 (by omega) v0 (by omega), aft_v, sg_X9_meet_49, q, if_pos hv, e]
        · rintro (a | ⟨v', a1, a2, a3⟩)
          · exact Or.inl a
          · by_cases hv' : v' = v
            · rw [hv', et v] at a3; omega
            · exact Or.inr ⟨v', a1, by omega, a3⟩
        · rintro (a | ⟨v', a1, a2, a3⟩)
          · exact Or.inl a
          · exact Or.inr ⟨v', a1, by omega, a3⟩
      · refine ⟨cm_u1 g (D 620 (15 * m + v)) 1, ?_, gM_st hP (fun b b0 => ⟨?_, ?_⟩)⟩
        · show cm_x 214 37 [some (.inr (.inr 613)), some (.inl (m)), some (.inl (v)), none, none] [] (cm_hp (ua25 D g) X) = cm_x 214 37 [some (.inr (.inr 613)), some (.inl (m)), some (.inl (v + 1)), none, none] [] (cm_hp (ua25 D (cm_u1 g (D 620 (15 * m + v)) 1)) X)
          have q : ua25 D g 620 = D 620 := rfl
          rw [sg_X9_meet_37, if_pos v1, ev_mTells m0 (by omega) v0 (by omega), aft_v, sg_X9_meet_49, q, if_neg hv, ev_mTells m0 (by omega) v0 (by omega), aft_v, sg_X9_meet_63, q, ck_t (by omega), up_ua, e]
        · rintro (a | ⟨v', a1, a2, a3⟩)
          · exact Or.inl (Or.inl a)
          · by_cases hv' : v' = v
            · exact Or.inr (by rw [← a3, hv', et v])
            · exact Or.inl (Or.inr ⟨v', a1, by omega, a3⟩)
        · rintro ((a | ⟨v', a1, a2, a3⟩) | a)
          · exact Or.inl a
          · exact Or.inr ⟨v', a1, by omega, a3⟩
          · exact Or.inr ⟨v, v0, by omega, by rw [et v]; exact a.symm⟩) _ (by omega) (gM_no i1 (fun b b0 => by
      constructor
      · rintro (a | ⟨v', c1, c2, c3⟩)
        · exact a
        · omega
      · exact Or.inl))
    obtain ⟨g2, L2, P2⟩ := lp_inv (X := fun n g => cm_x 214 73 [some (.inr (.inr 613)), some (.inl (m)), some (.inl (n)), none, none] [] (cm_hp (ua25 D g) X)) (P := fun n g => gM g (fun b => b = m ∨ (∃ v', 0 ≤ v' ∧ v' < 13 ∧ tl (D 620) m v' = b) ∨ ∃ n', 0 ≤ n' ∧ n' < n ∧ en (D 620) m n' ≠ -1 ∧ ∃ c, 0 ≤ c ∧ c < D 620 (15 * en (D 620) m n' + 8) ∧ D 620 (15 * en (D 620) m n' + c) = b)) (lo := 0) (hi := 12) (fun n g n0 n1 hP => by
      have e : cm_wr (n + 1) = n + 1 := cm_wr_id (by omega) (by omega)
      by_cases he : mEnt (D 620) m n = -1
      · refine ⟨g, ?_, gM_no hP (fun b b0 => ⟨?_, ?_⟩)⟩
        · show cm_x 214 73 [some (.inr (.inr 613)), some (.inl (m)), some (.inl (n)), none, none] [] (cm_hp (ua25 D g) X) = cm_x 214 73 [some (.inr (.inr 613)), some (.inl (m)), some (.inl (n + 1)), none, none] [] (cm_hp (ua25 D g) X)
          have q : ua25 D g 620 = D 620 := rfl
          rw [sg_X9_meet_73, if_pos n1, ev_mEntryBy (md_ua hd) hm hn n0 n1, aft_v, sg_X9_meet_85, q, sg_X9_meet_89, if_pos he, e]
        · rintro (a | a | ⟨n', c1, c2, c3, c4⟩)
          · exact Or.inl a
          · exact Or.inr (Or.inl a)
          · by_cases hn' : n' = n
            · rw [hn', ee n] at c3; exact absurd he c3
            · exact Or.inr (Or.inr ⟨n', c1, by omega, c3, c4⟩)
        · rintro (a | a | ⟨n', c1, c2, c3, c4⟩)
          · exact Or.inl a
          · exact Or.inr (Or.inl a)
          · exact Or.inr (Or.inr ⟨n', c1, by omega, c3, c4⟩)
      · have eo := mEnt_ok hd.1 hm hn n0 n1 he
        have hl := ent_len hd.1 eo (by omega)
        obtain ⟨⟨e0, e1⟩, ek, ec⟩ := eo
        obtain ⟨g3, L3, P3⟩ := lp_inv (X := fun c g => cm_x 214 89 [some (.inr (.inr 613)), some (.inl (m)), some (.inl (n)), some (.inl (mEnt (D 620) m n)), some (.inl (c))] [] (cm_hp (ua25 D g) X)) (P := fun c g => gM g (fun b => (b = m ∨ (∃ v', 0 ≤ v' ∧ v' < 13 ∧ tl (D 620) m v' = b) ∨ ∃ n', 0 ≤ n' ∧ n' < n ∧ en (D 620) m n' ≠ -1 ∧ ∃ c, 0 ≤ c ∧ c < D 620 (15 * en (D 620) m n' + 8) ∧ D 620 (15 * en (D 620) m n' + c) = b) ∨ ∃ c', 0 ≤ c' ∧ c' < c ∧ D 620 (15 * mEnt (D 620) m n + c') = b)) (lo := 0) (hi := D 620 (15 * mEnt (D 620) m n + 8)) (fun c g c0 c1 hP => by
          have ec := ec c c0 c1
          have e : cm_wr (c + 1) = c + 1 := cm_wr_id (by omega) (by omega)
          have q : ua25 D g 620 = D 620 := rfl
          refine ⟨cm_u1 g (D 620 (15 * mEnt (D 620) m n + c)) 1, ?_, gM_st hP (fun b b0 => ⟨?_, ?_⟩)⟩
          · show cm_x 214 89 [some (.inr (.inr 613)), some (.inl (m)), some (.inl (n)), some (.inl (mEnt (D 620) m n)), some (.inl (c))] [] (cm_hp (ua25 D g) X) = cm_x 214 89 [some (.inr (.inr 613)), some (.inl (m)), some (.inl (n)), some (.inl (mEnt (D 620) m n)), some (.inl (c + 1))] [] (cm_hp (ua25 D (cm_u1 g (D 620 (15 * mEnt (D 620) m n + c)) 1)) X)
            rw [sg_X9_meet_89, if_neg he, ev_mMany e0 (by omega), aft_v, sg_X9_meet_101, q, if_pos c1, ev_mTells e0 (by omega) c0 (by omega), aft_v, sg_X9_meet_115, q, ck_t (by omega), up_ua, e]
          · rintro (a | ⟨v', a1, a2, a3⟩)
            · exact Or.inl (Or.inl a)
            · by_cases hv : v' = c
              · exact Or.inr (by rw [← a3, hv])
              · exact Or.inl (Or.inr ⟨v', a1, by omega, a3⟩)
          · rintro ((a | ⟨v', a1, a2, a3⟩) | a)
            · exact Or.inl a
            · exact Or.inr ⟨v', a1, by omega, a3⟩
            · exact Or.inr ⟨c, c0, by omega, a.symm⟩) g (by omega) (gM_no hP (fun b b0 => by
          constructor
          · rintro (a | ⟨v', c1, c2, c3⟩)
            · exact a
            · omega
          · exact Or.inl))
        refine ⟨g3, ?_, gM_no P3 (fun b b0 => ⟨?_, ?_⟩)⟩
        · show cm_x 214 73 [some (.inr (.inr 613)), some (.inl (m)), some (.inl (n)), none, none] [] (cm_hp (ua25 D g) X) = cm_x 214 73 [some (.inr (.inr 613)), some (.inl (m)), some (.inl (n + 1)), none, none] [] (cm_hp (ua25 D g3) X)
          have q : ua25 D g 620 = D 620 := rfl
          have q3 : ua25 D g3 620 = D 620 := rfl
          rw [sg_X9_meet_73, if_pos n1, ev_mEntryBy (md_ua hd) hm hn n0 n1, aft_v, sg_X9_meet_85, q]
          refine Eq.trans L3 ?_
          show cm_x 214 89 [some (.inr (.inr 613)), some (.inl (m)), some (.inl (n)), some (.inl (mEnt (D 620) m n)), some (.inl (D 620 (15 * mEnt (D 620) m n + 8)))] [] (cm_hp (ua25 D g3) X) = _
          rw [sg_X9_meet_89, if_neg he, ev_mMany e0 (by omega), aft_v, sg_X9_meet_101, q3, if_neg (by omega), e]
        · rintro (a | a | ⟨n', c1, c2, c3, c, d1, d2, d3⟩)
          · exact Or.inl (Or.inl a)
          · exact Or.inl (Or.inr (Or.inl a))
          · by_cases hn' : n' = n
            · rw [hn', ee n] at d2 d3
              exact Or.inr ⟨c, d1, d2, d3⟩
            · exact Or.inl (Or.inr (Or.inr ⟨n', c1, by omega, c3, c, d1, d2, d3⟩))
        · rintro ((a | a | ⟨n', c1, c2, c3⟩) | ⟨c, c1, c2, c3⟩)
          · exact Or.inl a
          · exact Or.inr (Or.inl a)
          · exact Or.inr (Or.inr ⟨n', c1, by omega, c3⟩)
          · exact Or.inr (Or.inr ⟨n, n0, by omega, by rw [ee n]; exact he, c, c1, by rw [ee n]; exact c2, by rw [ee n]; exact c3⟩)) g1 (by omega) (gM_no P1 (fun b b0 => by
      constructor
      · rintro (a | a | ⟨n', c1, c2, c3⟩)
        · exact Or.inl a
        · exact Or.inr a
        · omega
      · rintro (a | a)
        · exact Or.inl a
        · exact Or.inr (Or.inl a)))
    refine ⟨g2, ?_, P2⟩
    refine Eq.trans L1 ?_
    show cm_x 214 37 [some (.inr (.inr 613)), some (.inl (m)), some (.inl (13)), none, none] [] (cm_hp (ua25 D g1) X) = _
    rw [sg_X9_meet_37, if_neg (by omega)]
    refine Eq.trans L2 ?_
    show cm_x 214 73 [some (.inr (.inr 613)), some (.inl (m)), some (.inl (12)), none, none] [] (cm_hp (ua25 D g2) X) = _
    rw [sg_X9_meet_73, if_neg (by omega)]
theorem ev_mDead (hd : mdOk D h) (hm : mpO (D 619) (D 614 1) h (D 617 242)) : ∃ g, cm_x 217 0 [some (.inr (.inr 613)), none, none] [] (cm_hp D X) = some (.inl (some (.inl (smw (fun b => tv (deadP (D 619) (D 620) (D 617 242) b)) h.toNat))), cm_hp (ua25 D g) X) := by
  have hh := hd.1.2.2.2
  have hh0 := hd.1.2.2.1
  obtain ⟨g, r1, r2⟩ := ev_meet (X := X) hd hm
  refine ⟨g, ?_⟩
  rw [sg_X9_dead_0, r1, aft_n, sg_X9_dead_14]
  have L := lp_cnt (n := h.toNat) (f := fun b => tv (deadP (D 619) (D 620) (D 617 242) b)) (X := fun i a => cm_x 217 16 [some (.inr (.inr 613)), some (.inl (a)), some (.inl (i))] [] (cm_hp (ua25 D g) X)) (by omega) (fun i _ _ => tv_bb _) (fun i a h1 h2 a1 a2 => by
    show cm_x 217 16 [some (.inr (.inr 613)), some (.inl (a)), some (.inl (i))] [] (cm_hp (ua25 D g) X) = cm_x 217 16 [some (.inr (.inr 613)), some (.inl (a + tv (deadP (D 619) (D 620) (D 617 242) i))), some (.inl (i + 1))] [] (cm_hp (ua25 D g) X)
    have e : cm_wr (i + 1) = i + 1 := cm_wr_id (by omega) (by omega)
    have e1 : cm_wr (a + 1) = a + 1 := cm_wr_id (by omega) (by omega)
    have e2 : cm_wr (a + 0) = a + 0 := cm_wr_id (by omega) (by omega)
    have e8 : ua25 D g 617 244 = h := hd.2.1
    have e14 : ua25 D g 625 = g := rfl
    have e11 : ua25 D g 619 = D 619 := rfl
    have r2 := r2 i h1 (by omega)
    rw [sg_X9_dead_16, e8, if_pos (by omega), ck_t (by omega), ev_isIn, aft_v, sg_X9_dead_41, e14, e11, e, e1, e2]
    by_cases k1 : 3 ≤ D 619 i ∧ D 619 i ≤ 6
    · rw [if_pos k1, if_neg (by omega), ck_t (by omega)]
      by_cases hr : rch (D 620) (D 617 242) i
      · rw [if_neg (r2.mpr hr), tv_f (fun z => z.2 hr)]
      · rw [if_pos (Classical.not_not.mp fun z => hr (r2.mp z)), tv_t ⟨k1, hr⟩]
    · rw [if_neg k1, if_pos rfl, tv_f (fun z => k1 z.1)])
  refine Eq.trans L ?_
  show cm_x 217 16 [some (.inr (.inr 613)), some (.inl (smw (fun b => tv (deadP (D 619) (D 620) (D 617 242) b)) h.toNat)), some (.inl (((h.toNat : Nat) : Int)))] [] (cm_hp (ua25 D g) X) = _
  have e8 : ua25 D g 617 244 = h := hd.2.1
  rw [sg_X9_dead_16, e8, if_neg (by omega)]
