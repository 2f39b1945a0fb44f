/-! the class's looks at the disc, told by the model's rows K (kinds) and B (bodies) below the head h -/
variable {D : Nat → Int → Int} {X : cm_X} {K B : Int → Int} {h pk : Int}
/-- the truth, as 0 or 1 -/
noncomputable def tv (p : Prop) : Int := @ite Int p (Classical.propDecidable p) 1 0
theorem tv_t {p : Prop} (h : p) : tv p = 1 := by unfold tv; exact if_pos h
theorem tv_f {p : Prop} (h : ¬ p) : tv p = 0 := by unfold tv; exact if_neg h
theorem tv_c {p q : Prop} (h : p ↔ q) : tv p = tv q := by rw [propext h]
theorem tv_b (p : Prop) : tv p = 0 ∨ tv p = 1 := by
  by_cases h : p
  · exact Or.inr (tv_t h)
  · exact Or.inl (tv_f h)
theorem tv_0 {p : Prop} : tv p = 0 ↔ ¬ p := ⟨fun h hp => (by rw [tv_t hp] at h; omega), tv_f⟩
theorem tv_1 {p : Prop} : tv p = 1 ↔ p := by
  constructor
  · intro h
    by_cases hp : p
    · exact hp
    · rw [tv_f hp] at h; omega
  · exact tv_t
/-- a loop that ends early at a place of a kind -/
theorem lp_ex {X : Int → cm_R} {p : Int → Prop} {T F : cm_R} {hi : Int} : ∀ {k : Nat} {lo : Int}, lo + k = hi → (∀ j, lo ≤ j → j < hi → (p j → X j = T) ∧ (¬ p j → X j = X (j + 1))) → X hi = F → ((∃ j, lo ≤ j ∧ j < hi ∧ p j) → X lo = T) ∧ ((¬ ∃ j, lo ≤ j ∧ j < hi ∧ p j) → X lo = F) := by
  intro k
  induction k with
  | zero =>
    intro lo e _ hF
    have e : lo = hi := by omega
    subst e
    exact ⟨fun ⟨j, h1, h2, _⟩ => by omega, fun _ => hF⟩
  | succ k ih =>
    intro lo e hs hF
    obtain ⟨i1, i2⟩ := ih (lo := lo + 1) (by omega) (fun j h1 h2 => hs j (by omega) h2) hF
    obtain ⟨s1, s2⟩ := hs lo (by omega) (by omega)
    by_cases hp : p lo
    · exact ⟨fun _ => s1 hp, fun hn => absurd ⟨lo, by omega, by omega, hp⟩ hn⟩
    · refine ⟨fun ⟨j, h1, h2, h3⟩ => ?_, fun hn => ?_⟩
      · rw [s2 hp]
        refine i1 ⟨j, ?_, h2, h3⟩
        by_cases h4 : j = lo
        · rw [h4] at h3; exact absurd h3 hp
        · omega
      · rw [s2 hp]
        exact i2 fun ⟨j, h1, h2, h3⟩ => hn ⟨j, by omega, h2, h3⟩
theorem lp_exi {X : Int → cm_R} {p : Int → Prop} {T F : cm_R} {lo hi : Int} (h : lo ≤ hi) (hs : ∀ j, lo ≤ j → j < hi → (p j → X j = T) ∧ (¬ p j → X j = X (j + 1))) (hF : X hi = F) : ((∃ j, lo ≤ j ∧ j < hi ∧ p j) → X lo = T) ∧ ((¬ ∃ j, lo ≤ j ∧ j < hi ∧ p j) → X lo = F) := lp_ex (k := (hi - lo).toNat) (by omega) hs hF
/-- a loop that counts -/
theorem lp_cnt {X : Int → Int → cm_R} {f : Int → Int} {n : Nat} (hn : n < 2147483647) (hf : ∀ i : Int, 0 ≤ i → i < n → 0 ≤ f i ∧ f i ≤ 1) (step : ∀ i a : Int, 0 ≤ i → i < n → 0 ≤ a → a ≤ i → X i a = X (i + 1) (a + f i)) : X 0 0 = X n (smw f n) := by
  have key : ∀ k : Nat, k ≤ n → X 0 0 = X k (smw f k) ∧ 0 ≤ smw f k ∧ smw f k ≤ k := by
    intro k
    induction k with
    | zero => intro _; exact ⟨rfl, Int.le_refl _, Int.le_refl _⟩
    | succ k ih =>
      intro hk
      obtain ⟨e, l1, l2⟩ := ih (by omega)
      have hb := hf k (by omega) (by omega)
      have e2 : smw f (k + 1) = smw f k + f k := cm_wr_id (by omega) (by omega)
      rw [e2]
      refine ⟨?_, by omega, by omega⟩
      rw [e, step k _ (by omega) (by omega) l1 l2]
      rfl
  exact (key n (Nat.le_refl _)).1
theorem tv_bb (p : Prop) : 0 ≤ tv p ∧ tv p ≤ 1 := by have := tv_b p; omega
/-- how much a block of a kind tells -/
def mLen (k m : Int) : Int := if k = 3 then 1 else if k = 4 then m else if k = 5 then 12 else if k = 6 then 15 else 0
def rDk (Kc Lc Tc K B : Int → Int) (h : Int) : Prop := ∀ b, 0 ≤ b → b < h → Kc b = K b ∧ (1 ≤ K b ∧ K b ≤ 8) ∧ (K b = 4 → 0 ≤ B (15 * b + 8) ∧ B (15 * b + 8) ≤ 8) ∧ Lc b = mLen (K b) (B (15 * b + 8)) ∧ ∀ i, 0 ≤ i → i < Lc b → Tc (b * 15 + i) = B (15 * b + i)
def goodM (K : Int → Int) (pk b : Int) : Prop := K b = 6 ∧ ∀ k, 0 ≤ k → k < pk → K (b - k) ≠ 8
def entOk (K B : Int → Int) (e m : Int) : Prop := (0 ≤ e ∧ e < m) ∧ K e = 4 ∧ ∀ c, 0 ≤ c → c < B (15 * e + 8) → (0 ≤ B (15 * e + c) ∧ B (15 * e + c) < e) ∧ K (B (15 * e + c)) = 3
def dirOk (K B : Int → Int) (d m : Int) : Prop := (0 ≤ d ∧ d < m) ∧ K d = 5 ∧ (∀ n, 0 ≤ n → n < 12 → B (15 * d + n) = -1 ∨ (1 ≤ B (15 * d + n) ∧ B (15 * d + n) < 13)) ∧ ∀ n k, 0 ≤ n → n < 12 → 0 ≤ k → k < 12 → B (15 * d + n) = B (15 * d + k) → B (15 * d + n) ≠ -1 → n = k
def mapOk (K B : Int → Int) (pk m : Int) : Prop := (B (15 * m) = -1 ∨ dirOk K B (B (15 * m)) m) ∧ (∀ v, 1 ≤ v → v < 13 → B (15 * m + v) = -1 ∨ entOk K B (B (15 * m + v)) m) ∧ (B (15 * m) ≠ -1 → ∀ n, 0 ≤ n → n < 12 → B (15 * B (15 * m) + n) ≠ -1 → B (15 * m + B (15 * B (15 * m) + n)) ≠ -1) ∧ (B (15 * m + 13) = -1 ∨ ((0 ≤ B (15 * m + 13) ∧ B (15 * m + 13) < m) ∧ goodM K pk (B (15 * m + 13))))
def vDk (pk : Int) (K B : Int → Int) (h : Int) : Prop := ∀ b, 0 ≤ b → b < h → K b = 6 → pk - 1 ≤ b ∧ (goodM K pk b → mapOk K B pk b)
/-- what is told of the disc -/
def zOk (D : Nat → Int → Int) : Prop := (40 ≤ D 9 0 ∧ D 9 0 ≤ 400) ∧ (2 ≤ D 9 1 ∧ D 9 1 ≤ 16) ∧ (0 ≤ D 9 2 ∧ D 9 2 ≤ 4) ∧ (0 ≤ D 9 3 ∧ D 9 3 ≤ 8) ∧ ∀ b, 0 ≤ b → b < 400 → 0 ≤ D 12 b ∧ D 12 b ≤ 15
def dOk (D : Nat → Int → Int) (K B : Int → Int) (h : Int) : Prop := zOk D ∧ rDk (D 11) (D 12) (D 13) K B h ∧ vDk (D 9 1) K B h ∧ h ≤ D 9 0 ∧ 0 ≤ h
/-- a map that is good, or none -/
def mpO (K : Int → Int) (pk h m : Int) : Prop := m = -1 ∨ ((0 ≤ m ∧ m < h) ∧ goodM K pk m)
def gOk (pk : Int) (K B : Int → Int) (h : Int) : Prop := (∀ b, 0 ≤ b → b < h → (1 ≤ K b ∧ K b ≤ 8) ∧ (K b = 4 → 0 ≤ B (15 * b + 8) ∧ B (15 * b + 8) ≤ 8)) ∧ vDk pk K B h ∧ 0 ≤ h ∧ h ≤ 400
theorem d_g (hd : dOk D K B h) : gOk (D 9 1) K B h := ⟨fun b h0 h1 => ⟨(hd.2.1 b h0 h1).2.1, (hd.2.1 b h0 h1).2.2.1⟩, hd.2.2.1, hd.2.2.2.2, Int.le_trans hd.2.2.2.1 hd.1.1.2⟩
theorem ev_isBlock (b : Int) : cm_x 18 0 [some (.inr (.inr 9)), some (.inl (b))] [] (cm_hp D X) = some (.inl (some (.inl (if 0 ≤ b ∧ b < D 9 0 then 1 else 0))), cm_hp D X) := by
  rw [sg_X2_isBlock_0]
  by_cases h1 : b < 0
  · rw [if_pos h1, if_neg (by omega)]
  · rw [if_neg h1]
    by_cases h2 : b < D 9 0
    · rw [if_pos h2, if_pos (by omega)]
    · rw [if_neg h2, if_neg (by omega)]
def tb (D : Nat → Int → Int) (b i : Int) : Int := if 0 ≤ b ∧ b < D 9 0 ∧ 0 ≤ i ∧ i < D 12 b then D 13 (b * 15 + i) else -1
theorem ev_toldBy (hz : zOk D) (b i : Int) : cm_x 23 0 [some (.inr (.inr 9)), some (.inl (b)), some (.inl (i))] [] (cm_hp D X) = some (.inl (some (.inl (tb D b i))), cm_hp D X) := by
  obtain ⟨⟨z1, z2⟩, -, -, -, z5⟩ := hz
  unfold tb
  rw [sg_X2_toldBy_0]
  by_cases h1 : b < 0
  · rw [if_pos h1, if_neg (by omega)]
  · rw [if_neg h1]
    by_cases h2 : b < D 9 0
    · rw [if_pos h2]
      by_cases h3 : i < 0
      · rw [if_pos h3, if_neg (by omega)]
      · have h4 := z5 b (by omega) (by omega)
        rw [if_neg h3, ck_t (by omega)]
        by_cases h5 : i < D 12 b
        · have e1 : cm_wr (b * 15) = b * 15 := cm_wr_id (by omega) (by omega)
          have e2 : cm_wr (b * 15 + i) = b * 15 + i := cm_wr_id (by omega) (by omega)
          rw [if_pos h5, e1, e2, ck_t (by omega), if_pos (by omega)]
        · rw [if_neg h5, if_neg (by omega)]
    · rw [if_neg h2, if_neg (by omega)]
def lo (D : Nat → Int → Int) (b : Int) : Int := if 0 ≤ b ∧ b < D 9 0 then D 12 b else 0
theorem ev_lengthOf (hz : zOk D) (b : Int) : cm_x 22 0 [some (.inr (.inr 9)), some (.inl (b))] [] (cm_hp D X) = some (.inl (some (.inl (lo D b))), cm_hp D X) := by
  obtain ⟨⟨z1, z2⟩, -, -, -, z5⟩ := hz
  unfold lo
  rw [sg_X2_lengthOf_0]
  by_cases h1 : b < 0
  · rw [if_pos h1, if_neg (by omega)]
  · rw [if_neg h1]
    by_cases h2 : b < D 9 0
    · rw [if_pos h2, ck_t (by omega), if_pos (by omega)]
    · rw [if_neg h2, if_neg (by omega)]
theorem tb_none (i : Int) : tb D (-1) i = -1 := by unfold tb; rw [if_neg (by omega)]
theorem lo_none : lo D (-1) = 0 := by unfold lo; rw [if_neg (by omega)]
theorem tb_in (hd : dOk D K B h) {b i : Int} (h0 : 0 ≤ b) (h1 : b < h) (h2 : 0 ≤ i) (h3 : i < mLen (K b) (B (15 * b + 8))) : tb D b i = B (15 * b + i) := by
  obtain ⟨hz, hr, hv, hs, hh⟩ := hd
  obtain ⟨a1, a2, a3, a4, a5⟩ := hr b h0 h1
  unfold tb
  rw [if_pos (by omega)]
  exact a5 i h2 (by omega)
theorem tb_map (hd : dOk D K B h) {b i : Int} (h0 : 0 ≤ b) (h1 : b < h) (hk : K b = 6) (h2 : 0 ≤ i) (h3 : i < 15) : tb D b i = B (15 * b + i) := tb_in hd h0 h1 h2 (by unfold mLen; rw [hk]; simpa using h3)
theorem tb_dir (hd : dOk D K B h) {b i : Int} (h0 : 0 ≤ b) (h1 : b < h) (hk : K b = 5) (h2 : 0 ≤ i) (h3 : i < 12) : tb D b i = B (15 * b + i) := tb_in hd h0 h1 h2 (by unfold mLen; rw [hk]; simpa using h3)
theorem tb_ent (hd : dOk D K B h) {b i : Int} (h0 : 0 ≤ b) (h1 : b < h) (hk : K b = 4) (h2 : 0 ≤ i) (h3 : i < B (15 * b + 8)) : tb D b i = B (15 * b + i) := tb_in hd h0 h1 h2 (by unfold mLen; rw [hk]; simpa using h3)
theorem tb_dat (hd : dOk D K B h) {b : Int} (h0 : 0 ≤ b) (h1 : b < h) (hk : K b = 3) : tb D b 0 = B (15 * b) := by
  have := tb_in hd (i := 0) h0 h1 (by omega) (by unfold mLen; rw [hk]; simp)
  rw [this, Int.add_zero]
theorem lo_ent (hd : dOk D K B h) {b : Int} (h0 : 0 ≤ b) (h1 : b < h) (hk : K b = 4) : lo D b = B (15 * b + 8) := by
  obtain ⟨hz, hr, hv, hs, hh⟩ := hd
  obtain ⟨a1, a2, a3, a4, a5⟩ := hr b h0 h1
  unfold lo
  rw [if_pos (by omega), a4]
  unfold mLen
  rw [hk]
  simp
theorem mx_r {a b : Int} (h : a ≤ b) : cm_mx a b = b := by
  unfold cm_mx
  by_cases h1 : a < b
  · rw [if_pos h1]
  · rw [if_neg h1]; omega
theorem mx_l {a b : Int} (h : b ≤ a) : cm_mx a b = a := by unfold cm_mx; rw [if_neg (by omega)]
theorem mn_l {a b : Int} (h : a ≤ b) : cm_mn a b = a := by unfold cm_mn; rw [if_neg (by omega)]
theorem mn_r {a b : Int} (h : b ≤ a) : cm_mn a b = b := by
  unfold cm_mn
  by_cases h1 : b < a
  · rw [if_pos h1]
  · rw [if_neg h1]; omega
theorem ev_good (hd : dOk D K B h) {b : Int} (h0 : 0 ≤ b) (h1 : b < h) : cm_x 31 0 [some (.inr (.inr 9)), some (.inl (b)), none] [] (cm_hp D X) = some (.inl (some (.inl (tv (goodM K (D 9 1) b)))), cm_hp D X) := by
  obtain ⟨hz, hr, hv, hs, hh⟩ := hd
  obtain ⟨⟨z1, z2⟩, ⟨z3, z4⟩, -, -, -⟩ := hz
  have ek : ∀ j, 0 ≤ j → j < h → D 11 j = K j := fun j a b => (hr j a b).1
  rw [sg_X2_isGoodMap_0, ck_t (by omega), ek b h0 h1]
  by_cases hk : K b = 6
  · have hp := (hv b h0 h1 hk).1
    have e1 : cm_wr (b - D 9 1) = b - D 9 1 := cm_wr_id (by omega) (by omega)
    have e2 : cm_wr (b - D 9 1 + 1) = b - D 9 1 + 1 := cm_wr_id (by omega) (by omega)
    rw [if_pos hk, e1, e2, mx_r (by omega)]
    have L := lp_exi (lo := b - D 9 1 + 1) (hi := b) (X := fun j => cm_x 31 26 [some (.inr (.inr 9)), some (.inl (b)), some (.inl (j))] [] (cm_hp D X)) (p := fun j => K j = 8) (T := some (.inl (some (.inl (0))), cm_hp D X)) (F := some (.inl (some (.inl (1))), cm_hp D X)) (by omega) (fun j a1 a2 => by
      have e : cm_wr (j + 1) = j + 1 := cm_wr_id (by omega) (by omega)
      refine ⟨fun hp => ?_, fun hp => ?_⟩
      · show cm_x 31 26 [some (.inr (.inr 9)), some (.inl (b)), some (.inl (j))] [] (cm_hp D X) = _
        rw [sg_X2_isGoodMap_26, if_pos a2, ck_t (by omega), ek j (by omega) (by omega), if_pos hp]
      · show cm_x 31 26 [some (.inr (.inr 9)), some (.inl (b)), some (.inl (j))] [] (cm_hp D X) = cm_x 31 26 [some (.inr (.inr 9)), some (.inl (b)), some (.inl (j + 1))] [] (cm_hp D X)
        rw [sg_X2_isGoodMap_26, if_pos a2, ck_t (by omega), ek j (by omega) (by omega), if_neg hp, e]) (by
      show cm_x 31 26 [some (.inr (.inr 9)), some (.inl (b)), some (.inl (b))] [] (cm_hp D X) = _
      rw [sg_X2_isGoodMap_26, if_neg (by omega)])
    by_cases hx : ∃ j, b - D 9 1 + 1 ≤ j ∧ j < b ∧ K j = 8
    · rw [tv_f]
      · exact L.1 hx
      · rintro ⟨-, g⟩
        obtain ⟨j, a1, a2, a3⟩ := hx
        have := g (b - j) (by omega) (by omega)
        rw [show b - (b - j) = j by omega] at this
        exact this a3
    · rw [tv_t]
      · exact L.2 hx
      · refine ⟨hk, fun k k0 k1 k2 => ?_⟩
        by_cases h4 : k = 0
        · rw [h4, Int.sub_zero, hk] at k2; omega
        · exact hx ⟨b - k, by omega, by omega, k2⟩
  · rw [if_neg hk, tv_f (fun g => hk g.1)]
/-- the last good map below n -/
noncomputable def lgM (K : Int → Int) (pk : Int) : Nat → Int
  | 0 => -1
  | n + 1 => if tv (goodM K pk n) = 0 then lgM K pk n else n
theorem lgM_ok (K : Int → Int) (pk : Int) : ∀ n : Nat, mpO K pk n (lgM K pk n) := by
  intro n
  induction n with
  | zero => exact Or.inl rfl
  | succ n ih =>
    unfold lgM
    by_cases hg : goodM K pk n
    · rw [tv_t hg, if_neg (by omega)]
      exact Or.inr ⟨⟨by omega, by omega⟩, hg⟩
    · rw [tv_f hg, if_pos rfl]
      rcases ih with ih | ⟨⟨i1, i2⟩, i3⟩
      · exact Or.inl ih
      · exact Or.inr ⟨⟨i1, by omega⟩, i3⟩
theorem ev_last (hd : dOk D K B h) {x : Int} (h0 : 0 ≤ x) (h1 : x ≤ h) : cm_x 32 0 [some (.inr (.inr 9)), some (.inl (x)), none] [] (cm_hp D X) = some (.inl (some (.inl (lgM K (D 9 1) x.toNat))), cm_hp D X) := by
  have hz := hd.1.1
  have hs := hd.2.2.2.1
  have key : ∀ n : Nat, (n : Int) ≤ h → cm_x 32 11 [some (.inr (.inr 9)), some (.inl (x)), some (.inl (n - 1))] [] (cm_hp D X) = some (.inl (some (.inl (lgM K (D 9 1) n))), cm_hp D X) := by
    intro n
    induction n with
    | zero => intro _; rw [sg_X2_lastGoodMap_11, if_pos (by omega)]; rfl
    | succ n ih =>
      intro hn
      have ih := ih (by omega)
      have e : (((n + 1 : Nat) : Int) - 1) = n := by omega
      have e2 : cm_wr ((n : Int) + -1) = (n : Int) - 1 := cm_wr_id (by omega) (by omega)
      rw [e, sg_X2_lastGoodMap_11, if_neg (by omega), ev_good hd (by omega) (by omega), aft_v, sg_X2_lastGoodMap_20, e2, ih]
      unfold lgM
      by_cases hg : tv (goodM K (D 9 1) n) = 0
      · rw [if_pos hg, if_pos hg]
        cases n <;> rfl
      · rw [if_neg hg, if_neg hg]
  have e3 : cm_wr (x - 1) = x - 1 := cm_wr_id (by omega) (by omega)
  rw [sg_X2_lastGoodMap_0, mn_l (by omega), e3]
  have := key x.toNat (by omega)
  rw [show ((x.toNat : Nat) : Int) = x by omega] at this
  exact this
theorem ev_goodMaps (hd : dOk D K B h) : cm_x 33 0 [some (.inr (.inr 9)), some (.inl (h)), none, none] [] (cm_hp D X) = some (.inl (some (.inl (smw (fun b => tv (goodM K (D 9 1) b)) h.toNat))), cm_hp D X) := by
  have hz := hd.1.1
  have hs := hd.2.2.2.1
  have hh := hd.2.2.2.2
  rw [sg_X2_goodMaps_0]
  have L := lp_cnt (n := h.toNat) (f := fun b => tv (goodM K (D 9 1) b)) (X := fun i a => cm_x 33 4 [some (.inr (.inr 9)), some (.inl (h)), some (.inl (a)), some (.inl (i))] [] (cm_hp D X)) (by omega) (fun i _ _ => tv_bb _) (fun i a h1 h2 a1 a2 => by
    show cm_x 33 4 [some (.inr (.inr 9)), some (.inl (h)), some (.inl (a)), some (.inl (i))] [] (cm_hp D X) = cm_x 33 4 [some (.inr (.inr 9)), some (.inl (h)), some (.inl (a + tv (goodM K (D 9 1) i))), some (.inl (i + 1))] [] (cm_hp D X)
    have e : cm_wr (i + 1) = i + 1 := cm_wr_id (by omega) (by omega)
    have e1 : cm_wr (a + 1) = a + 1 := cm_wr_id (by omega) (by omega)
    rw [sg_X2_goodMaps_4, if_pos (by omega), if_pos (by omega), ev_good hd (by omega) (by omega), aft_v, sg_X2_goodMaps_22, e, e1]
    by_cases hg : goodM K (D 9 1) i
    · rw [tv_t hg, if_neg (by omega)]
    · rw [tv_f hg, if_pos rfl, Int.add_zero])
  refine Eq.trans L ?_
  show cm_x 33 4 [some (.inr (.inr 9)), some (.inl (h)), some (.inl (smw (fun b => tv (goodM K (D 9 1) b)) h.toNat)), some (.inl (((h.toNat : Nat) : Int)))] [] (cm_hp D X) = _
  rw [sg_X2_goodMaps_4, if_neg (by omega)]
/-- so many maps on along those previous -/
def alg (B : Int → Int) : Nat → Int → Int
  | 0, m => m
  | k + 1, m => if m = -1 then -1 else alg B k (B (15 * m + 13))
theorem alg_none (B : Int → Int) : ∀ k, alg B k (-1) = -1 := by
  intro k
  cases k with
  | zero => rfl
  | succ k => unfold alg; rw [if_pos rfl]
theorem mp_map (hg : gOk pk K B h) {m : Int} (hm : mpO K pk h m) (hn : m ≠ -1) : (0 ≤ m ∧ m < h) ∧ K m = 6 ∧ mapOk K B pk m := by
  rcases hm with hm | ⟨⟨m0, m1⟩, mg⟩
  · exact absurd hm hn
  · exact ⟨⟨m0, m1⟩, mg.1, (hg.2.1 m m0 m1 mg.1).2 mg⟩
theorem mp_prev (hg : gOk pk K B h) {m : Int} (hm : mpO K pk h m) (hn : m ≠ -1) : mpO K pk h (B (15 * m + 13)) ∧ B (15 * m + 13) < m := by
  obtain ⟨⟨m0, m1⟩, -, -, -, -, mp⟩ := mp_map hg hm hn
  rcases mp with mp | ⟨⟨p0, p1⟩, pg⟩
  · exact ⟨Or.inl mp, by omega⟩
  · exact ⟨Or.inr ⟨⟨p0, by omega⟩, pg⟩, p1⟩
theorem alg_ok (hg : gOk pk K B h) : ∀ (k : Nat) {m : Int}, mpO K pk h m → mpO K pk h (alg B k m) := by
  intro k
  induction k with
  | zero => intro m hm; exact hm
  | succ k ih =>
    intro m hm
    unfold alg
    by_cases hn : m = -1
    · rw [if_pos hn]; exact Or.inl rfl
    · rw [if_neg hn]; exact ih (mp_prev hg hm hn).1
/-- far along there is none -/
theorem alg_far (hg : gOk pk K B h) : ∀ (k : Nat) {m : Int}, mpO K pk h m → m < k → alg B k m = -1 := by
  intro k
  induction k with
  | zero =>
    intro m hm hk
    rcases hm with hm | ⟨⟨m0, -⟩, -⟩
    · exact hm
    · omega
  | succ k ih =>
    intro m hm hk
    unfold alg
    by_cases hn : m = -1
    · rw [if_pos hn]
    · rw [if_neg hn]
      have := mp_prev hg hm hn
      exact ih this.1 (by omega)
theorem alg_add : ∀ (k l : Nat) (m : Int), alg B (k + l) m = alg B l (alg B k m) := by
  intro k
  induction k with
  | zero => intro l m; rw [Nat.zero_add]; rfl
  | succ k ih =>
    intro l m
    rw [show k + 1 + l = k + l + 1 by omega]
    show (if m = -1 then -1 else alg B (k + l) (B (15 * m + 13))) = alg B l (if m = -1 then -1 else alg B k (B (15 * m + 13)))
    by_cases hn : m = -1
    · rw [if_pos hn, if_pos hn, alg_none]
    · rw [if_neg hn, if_neg hn, ih]
/-- the k-th map: k as the class and the model may be asked for it -/
theorem alg_cut (hg : gOk pk K B h) {m : Int} (hm : mpO K pk h m) {k : Int} : alg B k.toNat m = alg B (cm_mn k 400).toNat m := by
  have hs := hg.2.2.2
  by_cases h1 : k ≤ 400
  · rw [mn_l h1]
  · rw [mn_r (by omega)]
    have hl : m < 400 := by
      rcases hm with hm | ⟨⟨_, _⟩, _⟩ <;> omega
    rw [show k.toNat = (400 : Int).toNat + (k - 400).toNat by omega, alg_add, alg_far hg _ hm (by omega), alg_none]
theorem ev_mapAlong (hd : dOk D K B h) {x : Int} (hm : mpO K (D 9 1) h x) {k : Int} (hk : k < 2147483648) : cm_x 34 0 [some (.inr (.inr 9)), some (.inl (x)), some (.inl (k)), none, none] [] (cm_hp D X) = some (.inl (some (.inl (if k < 0 then -1 else alg B k.toNat x))), cm_hp D X) := by
  rw [sg_X2_mapAlong_0]
  by_cases h0 : k < 0
  · rw [if_pos h0, if_pos h0]
  · rw [if_neg h0, if_neg h0]
    have key : ∀ (n : Nat) (j m : Int), 0 ≤ j → j + n = k → mpO K (D 9 1) h m → cm_x 34 11 [some (.inr (.inr 9)), some (.inl (x)), some (.inl (k)), some (.inl (m)), some (.inl (j))] [] (cm_hp D X) = some (.inl (some (.inl (alg B n m))), cm_hp D X) := by
      intro n
      induction n with
      | zero =>
        intro j m j0 jk _
        rw [sg_X2_mapAlong_11, if_neg (by omega)]
        rfl
      | succ n ih =>
        intro j m j0 jk hm
        have e : cm_wr (j + 1) = j + 1 := cm_wr_id (by omega) (by omega)
        rw [sg_X2_mapAlong_11, if_pos (by omega)]
        unfold alg
        by_cases hn : m = -1
        · rw [if_pos hn, if_pos hn, hn]
        · obtain ⟨⟨m0, m1⟩, mk, mo⟩ := mp_map (d_g hd) hm hn
          rw [if_neg hn, if_neg hn, ev_toldBy hd.1, aft_v, tb_map hd m0 m1 mk (by omega) (by omega), sg_X2_mapAlong_29, e]
          exact ih (j + 1) _ (by omega) (by omega) (mp_prev (d_g hd) hm hn).1
    have := key k.toNat 0 x (by omega) (by omega) hm
    exact this
/-- how many maps there are along -/
def chL (B : Int → Int) : Nat → Int → Int
  | 0, _ => 0
  | f + 1, m => if m = -1 then 0 else 1 + chL B f (B (15 * m + 13))
theorem chL_b (B : Int → Int) : ∀ (f : Nat) (m : Int), 0 ≤ chL B f m ∧ chL B f m ≤ f := by
  intro f
  induction f with
  | zero => intro m; exact ⟨Int.le_refl _, Int.le_refl _⟩
  | succ f ih =>
    intro m
    unfold chL
    by_cases hn : m = -1
    · rw [if_pos hn]; omega
    · rw [if_neg hn]
      have := ih (B (15 * m + 13))
      omega
theorem ev_mapsAlong (hd : dOk D K B h) {x : Int} (hm : mpO K (D 9 1) h x) : cm_x 35 0 [some (.inr (.inr 9)), some (.inl (x)), none, none] [] (cm_hp D X) = some (.inl (some (.inl (chL B 400 x))), cm_hp D X) := by
  rw [sg_X2_mapsAlong_0]
  have key : ∀ (n : Nat) (a m : Int), 0 ≤ a → a + n = 400 → mpO K (D 9 1) h m → cm_x 35 4 [some (.inr (.inr 9)), some (.inl (x)), some (.inl (a)), some (.inl (m))] [] (cm_hp D X) = some (.inl (some (.inl (a + chL B n m))), cm_hp D X) := by
    intro n
    induction n with
    | zero =>
      intro a m a0 ak _
      rw [sg_X2_mapsAlong_4, if_neg (by omega)]
      show _ = (some (.inl (some (.inl (a + 0))), cm_hp D X) : cm_R)
      rw [Int.add_zero]
    | succ n ih =>
      intro a m a0 ak hm
      have e : cm_wr (a + 1) = a + 1 := cm_wr_id (by omega) (by omega)
      rw [sg_X2_mapsAlong_4, if_pos (by omega)]
      unfold chL
      by_cases hn : m = -1
      · rw [if_pos hn, if_pos hn, Int.add_zero]
      · obtain ⟨⟨m0, m1⟩, mk, mo⟩ := mp_map (d_g hd) hm hn
        rw [if_neg hn, if_neg hn, ev_toldBy hd.1, aft_v, tb_map hd m0 m1 mk (by omega) (by omega), sg_X2_mapsAlong_26, e, ih (a + 1) _ (by omega) (by omega) (mp_prev (d_g hd) hm hn).1, Int.add_assoc]
  have := key 400 0 x (by omega) (by omega) hm
  rw [Int.zero_add] at this
  exact this
/-- the entry of a name by a map -/
def mEnt (B : Int → Int) (m n : Int) : Int := if B (15 * m) = -1 then -1 else if B (15 * B (15 * m) + n) = -1 then -1 else B (15 * m + B (15 * B (15 * m) + n))
theorem mEnt_ok (hg : gOk pk K B h) {m : Int} (hm : mpO K pk h m) (hn : m ≠ -1) {n : Int} (n0 : 0 ≤ n) (n1 : n < 12) (he : mEnt B m n ≠ -1) : entOk K B (mEnt B m n) m := by
  obtain ⟨⟨m0, m1⟩, mk, md, me, -, -⟩ := mp_map hg hm hn
  unfold mEnt at he ⊢
  by_cases h1 : B (15 * m) = -1
  · rw [if_pos h1] at he; exact absurd rfl he
  · rw [if_neg h1] at he ⊢
    by_cases h2 : B (15 * B (15 * m) + n) = -1
    · rw [if_pos h2] at he; exact absurd rfl he
    · rw [if_neg h2] at he ⊢
      rcases md with md | ⟨⟨d0, d1⟩, dk, dv, -⟩
      · exact absurd md h1
      · rcases dv n n0 n1 with dv | ⟨v0, v1⟩
        · exact absurd dv h2
        · rcases me _ v0 v1 with e | e
          · exact absurd e he
          · exact e
theorem ev_entryBy (hd : dOk D K B h) {m : Int} (hm : mpO K (D 9 1) h m) {n : Int} (n0 : 0 ≤ n) (n1 : n < 12) : cm_x 36 0 [some (.inr (.inr 9)), some (.inl (m)), some (.inl (n)), none] [] (cm_hp D X) = some (.inl (some (.inl (if m = -1 then -1 else mEnt B m n))), cm_hp D X) := by
  rw [sg_X2_entryBy_0, ev_toldBy hd.1, aft_v, sg_X2_entryBy_7, ev_toldBy hd.1, aft_v, sg_X2_entryBy_11]
  by_cases hn : m = -1
  · rw [if_pos hn, hn, tb_none, tb_none, if_pos rfl, sg_X2_entryBy_27_1]
  · obtain ⟨⟨m0, m1⟩, mk, md, me, -, -⟩ := mp_map (d_g hd) hm hn
    rw [if_neg hn, tb_map hd m0 m1 mk (by omega) (by omega), Int.add_zero]
    unfold mEnt
    by_cases h1 : B (15 * m) = -1
    · rw [if_pos h1, h1, tb_none, if_pos rfl, sg_X2_entryBy_27_1]
    · rw [if_neg h1]
      rcases md with md | ⟨⟨d0, d1⟩, dk, dv, -⟩
      · exact absurd md h1
      · rw [tb_dir hd d0 (by omega) dk n0 n1]
        by_cases h2 : B (15 * B (15 * m) + n) = -1
        · rw [if_pos h2, if_pos h2, sg_X2_entryBy_27_1]
        · rcases dv n n0 n1 with dv | ⟨v0, v1⟩
          · exact absurd dv h2
          · rw [if_neg h2, if_neg h2, ev_toldBy hd.1, aft_v, sg_X2_entryBy_27, tb_map hd m0 m1 mk (by omega) (by omega)]
/-- a cell by an entry -/
def mCel (B : Int → Int) (e c : Int) : Int := B (15 * B (15 * e + c))
theorem ev_numberBy (hd : dOk D K B h) {e m : Int} (he : entOk K B e m) (hm : m ≤ h) {c : Int} (c0 : 0 ≤ c) (c1 : c < B (15 * e + 8)) : cm_x 37 0 [some (.inr (.inr 9)), some (.inl (e)), some (.inl (c))] [] (cm_hp D X) = some (.inl (some (.inl (mCel B e c))), cm_hp D X) := by
  obtain ⟨⟨e0, e1⟩, ek, ec⟩ := he
  obtain ⟨⟨x0, x1⟩, xk⟩ := ec c c0 c1
  rw [sg_X2_numberBy_0, ev_toldBy hd.1, aft_v, sg_X2_numberBy_7, ev_toldBy hd.1, aft_v, sg_X2_numberBy_11, tb_ent hd e0 (by omega) ek c0 c1, tb_dat hd x0 (by omega) xk]
  rfl
theorem ev_lenE (hd : dOk D K B h) {e m : Int} (he : entOk K B e m) (hm : m ≤ h) : cm_x 22 0 [some (.inr (.inr 9)), some (.inl (e))] [] (cm_hp D X) = some (.inl (some (.inl (B (15 * e + 8)))), cm_hp D X) := by
  obtain ⟨⟨e0, e1⟩, ek, ec⟩ := he
  rw [ev_lengthOf hd.1, lo_ent hd e0 (by omega) ek]
theorem ent_len (hg : gOk pk K B h) {e m : Int} (he : entOk K B e m) (hm : m ≤ h) : 0 ≤ B (15 * e + 8) ∧ B (15 * e + 8) ≤ 8 := by
  obtain ⟨⟨e0, e1⟩, ek, ec⟩ := he
  exact (hg.1 e e0 (by omega)).2 ek
def alk (B : Int → Int) (e o : Int) : Prop := B (15 * e + 8) = B (15 * o + 8) ∧ ∀ c, 0 ≤ c → c < B (15 * e + 8) → mCel B e c = mCel B o c
theorem ev_tellAlike (hd : dOk D K B h) {e o m m2 : Int} (he : entOk K B e m) (hm : m ≤ h) (ho : entOk K B o m2) (hm2 : m2 ≤ h) : cm_x 38 0 [some (.inr (.inr 9)), some (.inl (e)), some (.inl (o)), none] [] (cm_hp D X) = some (.inl (some (.inl (tv (alk B e o)))), cm_hp D X) := by
  have hl := ent_len (d_g hd) he hm
  rw [sg_X2_tellAlike_0, ev_lenE hd he hm, aft_v, sg_X2_tellAlike_5, ev_lenE hd ho hm2, aft_v, sg_X2_tellAlike_10]
  by_cases h1 : B (15 * e + 8) = B (15 * o + 8)
  · rw [if_pos h1]
    have L := lp_exi (lo := 0) (hi := B (15 * e + 8)) (X := fun j => cm_x 38 17 [some (.inr (.inr 9)), some (.inl (e)), some (.inl (o)), some (.inl (j))] [] (cm_hp D X)) (p := fun c => mCel B e c ≠ mCel B o c) (T := some (.inl (some (.inl (0))), cm_hp D X)) (F := some (.inl (some (.inl (1))), cm_hp D X)) (by omega) (fun j a1 a2 => by
      have ee : cm_wr (j + 1) = j + 1 := cm_wr_id (by omega) (by omega)
      refine ⟨fun hp => ?_, fun hp => ?_⟩
      · show cm_x 38 17 [some (.inr (.inr 9)), some (.inl (e)), some (.inl (o)), some (.inl (j))] [] (cm_hp D X) = _
        rw [sg_X2_tellAlike_17, ev_lenE hd he hm, aft_v, sg_X2_tellAlike_23, if_pos a2, ev_numberBy hd he hm a1 a2, aft_v, sg_X2_tellAlike_32, ev_numberBy hd ho hm2 a1 (by omega), aft_v, sg_X2_tellAlike_38, if_neg hp]
      · show cm_x 38 17 [some (.inr (.inr 9)), some (.inl (e)), some (.inl (o)), some (.inl (j))] [] (cm_hp D X) = cm_x 38 17 [some (.inr (.inr 9)), some (.inl (e)), some (.inl (o)), some (.inl (j + 1))] [] (cm_hp D X)
        rw [sg_X2_tellAlike_17, ev_lenE hd he hm, aft_v, sg_X2_tellAlike_23, if_pos a2, ev_numberBy hd he hm a1 a2, aft_v, sg_X2_tellAlike_32, ev_numberBy hd ho hm2 a1 (by omega), aft_v, sg_X2_tellAlike_38, if_pos (Classical.not_not.mp hp), ee]) (by
      show cm_x 38 17 [some (.inr (.inr 9)), some (.inl (e)), some (.inl (o)), some (.inl (B (15 * e + 8)))] [] (cm_hp D X) = _
      rw [sg_X2_tellAlike_17, ev_lenE hd he hm, aft_v, sg_X2_tellAlike_23, if_neg (by omega)])
    by_cases hx : ∃ c, 0 ≤ c ∧ c < B (15 * e + 8) ∧ mCel B e c ≠ mCel B o c
    · rw [tv_f]
      · exact L.1 hx
      · rintro ⟨-, g⟩
        obtain ⟨j, a1, a2, a3⟩ := hx
        exact a3 (g j a1 a2)
    · rw [tv_t]
      · exact L.2 hx
      · exact ⟨h1, fun c c0 c1 => Classical.not_not.mp fun hc => hx ⟨c, c0, c1, hc⟩⟩
  · rw [if_neg h1, tv_f (fun g => h1 g.1)]
theorem ev_badBlocks (hd : dOk D K B h) : cm_x 43 0 [some (.inr (.inr 9)), some (.inl (h)), none, none] [] (cm_hp D X) = some (.inl (some (.inl (smw (fun b => tv (K b = 8)) h.toNat))), cm_hp D X) := by
  have hz := hd.1.1
  have hs := hd.2.2.2.1
  have hh := hd.2.2.2.2
  rw [sg_X2_badBlocks_0]
  have L := lp_cnt (n := h.toNat) (f := fun b => tv (K b = 8)) (X := fun i a => cm_x 43 4 [some (.inr (.inr 9)), some (.inl (h)), some (.inl (a)), some (.inl (i))] [] (cm_hp D X)) (by omega) (fun i _ _ => tv_bb _) (fun i a h1 h2 a1 a2 => by
    show cm_x 43 4 [some (.inr (.inr 9)), some (.inl (h)), some (.inl (a)), some (.inl (i))] [] (cm_hp D X) = cm_x 43 4 [some (.inr (.inr 9)), some (.inl (h)), some (.inl (a + tv (K i = 8))), some (.inl (i + 1))] [] (cm_hp D X)
    have e : cm_wr (i + 1) = i + 1 := cm_wr_id (by omega) (by omega)
    have e1 : cm_wr (a + 1) = a + 1 := cm_wr_id (by omega) (by omega)
    rw [sg_X2_badBlocks_4, if_pos (by omega), if_pos (by omega), ck_t (by omega), (hd.2.1 i h1 (by omega)).1, e, e1]
    by_cases hg : K i = 8
    · rw [tv_t hg, if_pos hg]
    · rw [tv_f hg, if_neg hg, Int.add_zero])
  refine Eq.trans L ?_
  show cm_x 43 4 [some (.inr (.inr 9)), some (.inl (h)), some (.inl (smw (fun b => tv (K b = 8)) h.toNat)), some (.inl (((h.toNat : Nat) : Int)))] [] (cm_hp D X) = _
  rw [sg_X2_badBlocks_4, if_neg (by omega)]
