/-! the places of a packet: the class -/
variable {D E : Nat → Int → Int} {X : cm_X} {S : Nat → Int → Int} {L : List CT} {f a b A W : Int → Int} {q : Int}
/-- the first q contents are placed by f: where cells and virtuals are then -/
def plQ (V A W : Int → Int) (L : List CT) (q : Int) (f a b : Int → Int) : Prop :=
  (∀ (t : Nat) (n c : Int), (t : Int) < q → L[t]? = some (3, n, c) → a (n * 8 + c) = f t) ∧
  (∀ y, 0 ≤ y → y < 96 → (∀ (t : Nat) (n c : Int), (t : Int) < q → L[t]? = some (3, n, c) → y ≠ n * 8 + c) → a y = A y) ∧
  (∀ (t : Nat) (n d : Int), (t : Int) < q → L[t]? = some (4, n, d) → b (V n) = f t) ∧
  (∀ (t : Nat) (n d : Int), (t : Int) < q → L[t]? = some (5, n, d) → b 0 = f t) ∧
  ∀ v, 0 ≤ v → v < 13 → (∀ (t : Nat) (n d : Int), (t : Int) < q → L[t]? = some (4, n, d) → v ≠ V n) → (∀ (t : Nat) (n d : Int), (t : Int) < q → L[t]? = some (5, n, d) → v ≠ 0) → b v = W v
def mxq (q t : Int) : Int := if q ≤ t then t + 1 else q
theorem mxq_lt {t t' : Int} (hq : t ≤ q) (h : t' < mxq q t) (hne : t' ≠ t) : t' < q := by
  unfold mxq at h
  split at h
  · omega
  · exact h
theorem mxq_le {t t' : Int} (h : t' < q) : t' < mxq q t := by
  unfold mxq
  split
  · omega
  · exact h
theorem mxq_t {t : Int} : t < mxq q t := by
  unfold mxq
  split
  · omega
  · omega
theorem f_ne {t t' : Nat} {v : Int} (h : t' ≠ t) : cm_u1 f (t : Int) v (t' : Int) = f t' := u1_ne (by omega)
theorem ct_3 (hg : gL S L) {t : Nat} {n c : Int} (h : L[t]? = some (3, n, c)) (hn : nS S) : ((0 ≤ n ∧ n < 12) ∧ (0 ≤ c ∧ c < S 2 n) ∧ S 4 (n * 8 + c) = -1 ∧ S 1 n ≠ 0 ∧ S 3 n ≠ 0) ∧ c < 8 := by
  have hx := hg.2.2.1 _ (List.mem_of_getElem? h)
  rcases hx with ⟨-, z⟩ | ⟨z, -⟩ | ⟨z, -⟩ | z | z
  · have := (hn.2.1 n z.1.1 z.1.2).2.1
    have z2 := z.2.1
    dsimp only at z2
    exact ⟨z, by omega⟩
  · dsimp only at z; omega
  · have := congrArg (fun z : CT => z.1) z; dsimp only at this; omega
  · have := congrArg (fun z : CT => z.1) z; dsimp only at this; omega
  · have := congrArg (fun z : CT => z.1) z; dsimp only at this; omega
theorem ct_4 (hg : gL S L) {t : Nat} {n d : Int} (h : L[t]? = some (4, n, d)) : d = -1 ∧ (0 ≤ n ∧ n < 12) ∧ S 1 n ≠ 0 ∧ S 3 n ≠ 0 := by
  have hx := hg.2.2.1 _ (List.mem_of_getElem? h)
  rcases hx with ⟨z, -⟩ | ⟨-, z⟩ | ⟨z, -⟩ | z | z
  · dsimp only at z; omega
  · exact z
  · have := congrArg (fun z : CT => z.1) z; dsimp only at this; omega
  · have := congrArg (fun z : CT => z.1) z; dsimp only at this; omega
  · have := congrArg (fun z : CT => z.1) z; dsimp only at this; omega
theorem ct_5 (hg : gL S L) {t : Nat} {n d : Int} (h : L[t]? = some (5, n, d)) : n = -1 ∧ d = -1 ∧ S 0 6 ≠ 0 := by
  have hx := hg.2.2.1 _ (List.mem_of_getElem? h)
  rcases hx with ⟨z, -⟩ | ⟨z, -⟩ | ⟨z, z2⟩ | z | z
  · dsimp only at z; omega
  · dsimp only at z; omega
  · have h1 := congrArg (fun z : CT => z.2.1) z
    have h2 := congrArg (fun z : CT => z.2.2) z
    exact ⟨h1, h2, z2⟩
  · have := congrArg (fun z : CT => z.1) z; dsimp only at this; omega
  · have := congrArg (fun z : CT => z.1) z; dsimp only at this; omega
theorem ct_6 (hg : gL S L) {t : Nat} {n d : Int} (h : L[t]? = some (6, n, d)) : t + 1 = L.length := by
  have hx := hg.2.2.1 _ (List.mem_of_getElem? h)
  rcases hx with ⟨z, -⟩ | ⟨z, -⟩ | ⟨z, z2⟩ | z | z
  · dsimp only at z; omega
  · dsimp only at z; omega
  · have := congrArg (fun z : CT => z.1) z; dsimp only at this; omega
  · have := congrArg (fun z : CT => z.1) z; dsimp only at this; omega
  · rw [z] at h
    have := hg.1 _ _ _ h hg.2.2.2.2.2.2 (by show ¬ (6 : Int) = 2; omega)
    have := hg.2.2.2.2.2.1
    omega
theorem some_ne {x y : CT} {k : Int} (h1 : (some x : Option CT) = some y) (hx : x.1 = k) (hy : y.1 ≠ k) : False := by
  have := Option.some.inj h1
  rw [this] at hx
  exact hy hx
theorem plQ_3 (hg : gL S L) (hn : nS S) (hp : plQ (S 1) A W L q f a b) {t : Nat} {n c v : Int} (hx : L[t]? = some (3, n, c)) (htq : (t : Int) ≤ q) : plQ (S 1) A W L (mxq q t) (cm_u1 f (t : Int) v) (cm_u1 a (n * 8 + c) v) b := by
  obtain ⟨p1, p2, p3, p4, p5⟩ := hp
  have w := ct_3 hg hx hn
  have ne : ∀ (t' : Nat) (y : CT), L[t']? = some y → y.1 ≠ 3 → t' ≠ t := fun t' y hy h3 z => by
    rw [z, hx] at hy
    exact some_ne hy rfl h3
  refine ⟨fun t' n' c' h1 h2 => ?_, fun y y0 y1 hy => ?_, fun t' n' d h1 h2 => ?_, fun t' n' d h1 h2 => ?_, fun y y0 y1 hy hz => ?_⟩
  · by_cases ht : t' = t
    · rw [ht, hx] at h2
      have e := Option.some.inj h2
      have e1 : n = n' := congrArg (fun z : CT => z.2.1) e
      have e2 : c = c' := congrArg (fun z : CT => z.2.2) e
      rw [← e1, ← e2, ht, u1_eq, u1_eq]
    · have w' := ct_3 hg h2 hn
      rw [f_ne ht, u1_ne (fun z => ?_), p1 t' n' c' (mxq_lt htq h1 (by omega)) h2]
      have e1 : n' = n := by omega
      have e2 : c' = c := by omega
      rw [e1, e2] at h2
      exact ht (hg.1 _ _ _ h2 hx (by show ¬ (3 : Int) = 2; omega))
  · rw [u1_ne (hy t n c mxq_t hx)]
    exact p2 y y0 y1 fun t' n' c' h1 h2 => hy t' n' c' (mxq_le h1) h2
  · have ht := ne t' _ h2 (by show ¬ (4 : Int) = 3; omega)
    rw [f_ne ht]
    exact p3 t' n' d (mxq_lt htq h1 (by omega)) h2
  · have ht := ne t' _ h2 (by show ¬ (5 : Int) = 3; omega)
    rw [f_ne ht]
    exact p4 t' n' d (mxq_lt htq h1 (by omega)) h2
  · exact p5 y y0 y1 (fun t' n' d h1 h2 => hy t' n' d (mxq_le h1) h2) (fun t' n' d h1 h2 => hz t' n' d (mxq_le h1) h2)
theorem plQ_4 (hg : gL S L) (hn : nS S) (hp : plQ (S 1) A W L q f a b) {t : Nat} {n c v : Int} (hx : L[t]? = some (4, n, c)) (htq : (t : Int) ≤ q) : plQ (S 1) A W L (mxq q t) (cm_u1 f (t : Int) v) a (cm_u1 b (S 1 n) v) := by
  obtain ⟨p1, p2, p3, p4, p5⟩ := hp
  have w := ct_4 hg hx
  have ne : ∀ (t' : Nat) (y : CT), L[t']? = some y → y.1 ≠ 4 → t' ≠ t := fun t' y hy h3 z => by
    rw [z, hx] at hy
    exact some_ne hy rfl h3
  refine ⟨fun t' n' c' h1 h2 => ?_, fun y y0 y1 hy => ?_, fun t' n' d h1 h2 => ?_, fun t' n' d h1 h2 => ?_, fun y y0 y1 hy hz => ?_⟩
  · have ht := ne t' _ h2 (by show ¬ (3 : Int) = 4; omega)
    rw [f_ne ht]
    exact p1 t' n' c' (mxq_lt htq h1 (by omega)) h2
  · exact p2 y y0 y1 fun t' n' c' h1 h2 => hy t' n' c' (mxq_le h1) h2
  · by_cases ht : t' = t
    · rw [ht, hx] at h2
      have e := Option.some.inj h2
      have e1 : n = n' := congrArg (fun z : CT => z.2.1) e
      rw [← e1, ht, u1_eq, u1_eq]
    · have w' := ct_4 hg h2
      rw [f_ne ht, u1_ne (fun z => ?_), p3 t' n' d (mxq_lt htq h1 (by omega)) h2]
      have e1 : n' = n := hn.2.2 n' n w'.2.1.1 w'.2.1.2 w.2.1.1 w.2.1.2 z w'.2.2.1
      rw [e1, w'.1] at h2
      have hx' : L[t]? = some (4, n, -1) := by rw [hx, w.1]
      exact ht (hg.1 _ _ _ h2 hx' (by show ¬ (4 : Int) = 2; omega))
  · have ht := ne t' _ h2 (by show ¬ (5 : Int) = 4; omega)
    rw [f_ne ht, u1_ne (fun z => w.2.2.1 z.symm)]
    exact p4 t' n' d (mxq_lt htq h1 (by omega)) h2
  · rw [u1_ne (hy t n c mxq_t hx)]
    exact p5 y y0 y1 (fun t' n' d h1 h2 => hy t' n' d (mxq_le h1) h2) (fun t' n' d h1 h2 => hz t' n' d (mxq_le h1) h2)
theorem plQ_5 (hg : gL S L) (hp : plQ (S 1) A W L q f a b) {t : Nat} {n c v : Int} (hx : L[t]? = some (5, n, c)) (htq : (t : Int) ≤ q) : plQ (S 1) A W L (mxq q t) (cm_u1 f (t : Int) v) a (cm_u1 b 0 v) := by
  obtain ⟨p1, p2, p3, p4, p5⟩ := hp
  have w := ct_5 hg hx
  have ne : ∀ (t' : Nat) (y : CT), L[t']? = some y → y.1 ≠ 5 → t' ≠ t := fun t' y hy h3 z => by
    rw [z, hx] at hy
    exact some_ne hy rfl h3
  refine ⟨fun t' n' c' h1 h2 => ?_, fun y y0 y1 hy => ?_, fun t' n' d h1 h2 => ?_, fun t' n' d h1 h2 => ?_, fun y y0 y1 hy hz => ?_⟩
  · have ht := ne t' _ h2 (by show ¬ (3 : Int) = 5; omega)
    rw [f_ne ht]
    exact p1 t' n' c' (mxq_lt htq h1 (by omega)) h2
  · exact p2 y y0 y1 fun t' n' c' h1 h2 => hy t' n' c' (mxq_le h1) h2
  · have ht := ne t' _ h2 (by show ¬ (4 : Int) = 5; omega)
    have w' := ct_4 hg h2
    rw [f_ne ht, u1_ne w'.2.2.1]
    exact p3 t' n' d (mxq_lt htq h1 (by omega)) h2
  · have w' := ct_5 hg h2
    rw [w'.1, w'.2.1] at h2
    have hx' : L[t]? = some (5, -1, -1) := by rw [hx, w.1, w.2.1]
    have ht := hg.1 _ _ _ h2 hx' (by show ¬ (5 : Int) = 2; omega)
    rw [ht, u1_eq, u1_eq]
  · rw [u1_ne (hz t n c mxq_t hx)]
    exact p5 y y0 y1 (fun t' n' d h1 h2 => hy t' n' d (mxq_le h1) h2) (fun t' n' d h1 h2 => hz t' n' d (mxq_le h1) h2)
theorem plQ_0 (hp : plQ (S 1) A W L q f a b) {t : Nat} {x : CT} {v : Int} (hx : L[t]? = some x) (h3 : x.1 ≠ 3) (h4 : x.1 ≠ 4) (h5 : x.1 ≠ 5) (htq : (t : Int) ≤ q) : plQ (S 1) A W L (mxq q t) (cm_u1 f (t : Int) v) a b := by
  obtain ⟨p1, p2, p3, p4, p5⟩ := hp
  have ne : ∀ (t' : Nat) (y : CT), L[t']? = some y → (y.1 = 3 ∨ y.1 = 4 ∨ y.1 = 5) → t' ≠ t := fun t' y hy h z => by
    rw [z, hx] at hy
    rw [Option.some.inj hy] at h3 h4 h5
    omega
  refine ⟨fun t' n' c' h1 h2 => ?_, fun y y0 y1 hy => ?_, fun t' n' d h1 h2 => ?_, fun t' n' d h1 h2 => ?_, fun y y0 y1 hy hz => ?_⟩
  · have ht := ne t' _ h2 (Or.inl rfl)
    rw [f_ne ht]
    exact p1 t' n' c' (mxq_lt htq h1 (by omega)) h2
  · exact p2 y y0 y1 fun t' n' c' h1 h2 => hy t' n' c' (mxq_le h1) h2
  · have ht := ne t' _ h2 (Or.inr (Or.inl rfl))
    rw [f_ne ht]
    exact p3 t' n' d (mxq_lt htq h1 (by omega)) h2
  · have ht := ne t' _ h2 (Or.inr (Or.inr rfl))
    rw [f_ne ht]
    exact p4 t' n' d (mxq_lt htq h1 (by omega)) h2
  · exact p5 y y0 y1 (fun t' n' d h1 h2 => hy t' n' d (mxq_le h1) h2) (fun t' n' d h1 h2 => hz t' n' d (mxq_le h1) h2)
theorem plQ_cg {a' b' : Int → Int} (hg : gL S L) (hn : nS S) (hp : plQ (S 1) A W L q f a b) (ha : ∀ y, 0 ≤ y → y < 96 → a' y = a y) (hb : ∀ v, 0 ≤ v → v < 13 → b' v = b v) : plQ (S 1) A W L q f a' b' := by
  obtain ⟨p1, p2, p3, p4, p5⟩ := hp
  refine ⟨fun t n c h1 h2 => ?_, fun y y0 y1 hy => ?_, fun t n d h1 h2 => ?_, fun t n d h1 h2 => ?_, fun v v0 v1 hy hz => ?_⟩
  · have w := ct_3 hg h2 hn
    rw [ha _ (by omega) (by omega)]; exact p1 t n c h1 h2
  · rw [ha _ y0 y1]; exact p2 y y0 y1 hy
  · have w := ct_4 hg h2
    have := (hn.2.1 n w.2.1.1 w.2.1.2).1
    rw [hb _ (by omega) (by omega)]; exact p3 t n d h1 h2
  · rw [hb _ (by omega) (by omega)]; exact p4 t n d h1 h2
  · rw [hb _ v0 v1]; exact p5 v v0 v1 hy hz
/-- places of a packet -/
def upf (f : Int → Int) (t0 j s : Int) : Int → Int := fun t => if t0 ≤ t ∧ t < j then s + (t - t0) else f t
theorem upf_0 {t0 s : Int} : upf f t0 t0 s = f := by
  funext t
  unfold upf
  rw [if_neg (by omega)]
theorem upf_s {t0 j s : Int} (h : t0 ≤ j) : upf f t0 (j + 1) s = cm_u1 (upf f t0 j s) j (s + (j - t0)) := by
  funext t
  unfold upf
  by_cases ht : t = j
  · rw [ht, u1_eq, if_pos (by omega)]
  · rw [u1_ne ht]
    by_cases h2 : t0 ≤ t ∧ t < j
    · rw [if_pos h2, if_pos (by omega)]
    · rw [if_neg h2, if_neg (by omega)]
abbrev r92 (D : Nat → Int → Int) (p : (Int → Int) × (Int → Int)) : Nat → Int → Int := cm_ua (cm_ua D 19 p.1) 21 p.2
def mq2 (q j : Int) : Int := if q ≤ j then j else q
theorem mq2_le {q j : Int} : j ≤ mq2 q j := by
  unfold mq2
  split
  · omega
  · omega
theorem mq2_s {q j : Int} : mq2 q (j + 1) = mxq (mq2 q j) j := by
  unfold mxq mq2
  by_cases h : q ≤ j
  · rw [if_pos h, if_pos (by omega), if_pos (Int.le_refl _)]
  · rw [if_neg h, if_neg h]
    by_cases h2 : q ≤ j + 1
    · rw [if_pos h2]; omega
    · rw [if_neg h2]
theorem ev_placeP {t0 s m : Int} (hg : gL S L) (hn : nS S) (hl : cHol D L) (hL : L.length ≤ 125) (e1 : D 16 = S 1) (h0 : 0 ≤ t0) (m0 : 0 ≤ m) (h1 : t0 + m ≤ L.length) (s0 : 0 ≤ s) (s1 : s ≤ 1000) : ∃ a' b', cm_x 10 0 [some (.inr (.inr 22)), some (.inr (.inr 15)), some (.inl (t0)), some (.inl (s)), some (.inl (m)), none, none] [] (cm_hp D X) = some (.inl none, cm_hp (r92 D (a', b')) X) ∧ ∀ A W q f, plQ (S 1) A W L q f (D 19) (D 21) → t0 ≤ q → q ≤ t0 + m → plQ (S 1) A W L (t0 + m) (upf f t0 (t0 + m) s) a' b' := by
  obtain ⟨hc, hx⟩ := hl
  obtain ⟨⟨a', b'⟩, R1, R2⟩ := lp_inv (X := fun j p => cm_x 10 3 [some (.inr (.inr 22)), some (.inr (.inr 15)), some (.inl (t0)), some (.inl (s)), some (.inl (m)), some (.inl (j)), none] [] (cm_hp (r92 D p) X)) (P := fun j p => ∀ A W q f, plQ (S 1) A W L q f (D 19) (D 21) → t0 ≤ q → plQ (S 1) A W L (mq2 q j) (upf f t0 j s) p.1 p.2) (lo := t0) (hi := t0 + m) (fun j p j0 j1 hP => by
    have w1 : cm_wr (t0 + m) = t0 + m := cm_wr_id (by omega) (by omega)
    have w2 : cm_wr (j + 1) = j + 1 := cm_wr_id (by omega) (by omega)
    have w3 : cm_wr (cm_wr (s + j) - t0) = s + (j - t0) := by
      rw [cm_wr_id (x := s + j) (by omega) (by omega), cm_wr_id (by omega) (by omega)]
      omega
    have ej : ((j.toNat : Nat) : Int) = j := by omega
    have hlt : j.toNat < L.length := by omega
    have hgt : L[j.toNat]? = some L[j.toNat] := List.getElem?_eq_getElem hlt
    generalize L[j.toNat] = x at hgt
    obtain ⟨k1, k2, k3⟩ := hx _ _ hgt
    rw [ej] at k1 k2 k3
    obtain ⟨x1, x2, x3'⟩ := x
    dsimp only at k1 k2 k3
    have q23 : (r92 D p) 23 = D 23 := rfl
    have q24 : (r92 D p) 24 = D 24 := rfl
    have q25 : (r92 D p) 25 = D 25 := rfl
    have q16 : (r92 D p) 16 = S 1 := e1
    have q22 : (r92 D p) 22 3 = L.length := hc
    have q19 : cm_up (r92 D p) 19 (x2 * 8 + x3') (s + (j - t0)) = r92 D (cm_u1 p.1 (x2 * 8 + x3') (s + (j - t0)), p.2) := by
      funext y
      by_cases h19 : y = 19
      · rw [h19]; rfl
      · rw [up_row h19]
        unfold r92
        by_cases h21 : y = 21
        · rw [h21, ua_same, ua_same]
        · rw [ua_row h21, ua_row h21, ua_row h19, ua_row h19]
    have q21 : ∀ z, cm_up (r92 D p) 21 z (s + (j - t0)) = r92 D (p.1, cm_u1 p.2 z (s + (j - t0))) := fun z => by
      unfold r92
      rw [up_to_ua, ua_same, ua_ua]
    by_cases h3 : x1 = 3
    · have w := ct_3 hg (by rw [h3] at hgt; exact hgt) hn
      refine ⟨(cm_u1 p.1 (x2 * 8 + x3') (s + (j - t0)), p.2), ?_, fun A W q f h1 h2 => ?_⟩
      · show cm_x 10 3 [some (.inr (.inr 22)), some (.inr (.inr 15)), some (.inl (t0)), some (.inl (s)), some (.inl (m)), some (.inl (j)), none] [] (cm_hp (r92 D p) X) = cm_x 10 3 [some (.inr (.inr 22)), some (.inr (.inr 15)), some (.inl (t0)), some (.inl (s)), some (.inl (m)), some (.inl (j + 1)), none] [] (cm_hp (r92 D (cm_u1 p.1 (x2 * 8 + x3') (s + (j - t0)), p.2)) X)
        rw [sg_X1_placePacket_3, w1, if_pos j1, q22, if_pos (by omega), ck_t (by omega), q23, k1, if_pos h3, ck_t (by omega), ck_t (by omega), q24, q25, k2, k3, cm_wr_id (x := x2 * 8) (by omega) (by omega), cm_wr_id (x := x2 * 8 + x3') (by omega) (by omega), ck_t (by omega), w2, w3, q19]
      · have := plQ_3 hg hn (hP A W q f h1 h2) (t := j.toNat) (n := x2) (c := x3') (v := s + (j - t0)) (by rw [h3] at hgt; exact hgt) (by rw [ej]; exact mq2_le)
        rw [ej, ← mq2_s, ← upf_s j0] at this
        exact this
    · by_cases h4 : x1 = 4
      · have w := ct_4 hg (by rw [h4] at hgt; exact hgt)
        have wv := (hn.2.1 x2 w.2.1.1 w.2.1.2).1
        refine ⟨(p.1, cm_u1 p.2 (S 1 x2) (s + (j - t0))), ?_, fun A W q f h1 h2 => ?_⟩
        · show cm_x 10 3 [some (.inr (.inr 22)), some (.inr (.inr 15)), some (.inl (t0)), some (.inl (s)), some (.inl (m)), some (.inl (j)), none] [] (cm_hp (r92 D p) X) = cm_x 10 3 [some (.inr (.inr 22)), some (.inr (.inr 15)), some (.inl (t0)), some (.inl (s)), some (.inl (m)), some (.inl (j + 1)), none] [] (cm_hp (r92 D (p.1, cm_u1 p.2 (S 1 x2) (s + (j - t0)))) X)
          rw [sg_X1_placePacket_3, w1, if_pos j1, q22, if_pos (by omega), ck_t (by omega), q23, k1, if_neg h3, ck_t (by omega), if_pos h4, ck_t (by omega), q24, k2, ck_t (by omega), q16, ck_t (by omega), w2, w3, q21]
        · have := plQ_4 hg hn (hP A W q f h1 h2) (t := j.toNat) (n := x2) (c := x3') (v := s + (j - t0)) (by rw [h4] at hgt; exact hgt) (by rw [ej]; exact mq2_le)
          rw [ej, ← mq2_s, ← upf_s j0] at this
          exact this
      · by_cases h5 : x1 = 5
        · refine ⟨(p.1, cm_u1 p.2 0 (s + (j - t0))), ?_, fun A W q f h1 h2 => ?_⟩
          · show cm_x 10 3 [some (.inr (.inr 22)), some (.inr (.inr 15)), some (.inl (t0)), some (.inl (s)), some (.inl (m)), some (.inl (j)), none] [] (cm_hp (r92 D p) X) = cm_x 10 3 [some (.inr (.inr 22)), some (.inr (.inr 15)), some (.inl (t0)), some (.inl (s)), some (.inl (m)), some (.inl (j + 1)), none] [] (cm_hp (r92 D (p.1, cm_u1 p.2 0 (s + (j - t0)))) X)
            rw [sg_X1_placePacket_3, w1, if_pos j1, q22, if_pos (by omega), ck_t (by omega), q23, k1, if_neg h3, ck_t (by omega), if_neg h4, ck_t (by omega), if_pos h5, w2, w3, q21]
          · have := plQ_5 hg (hP A W q f h1 h2) (t := j.toNat) (n := x2) (c := x3') (v := s + (j - t0)) (by rw [h5] at hgt; exact hgt) (by rw [ej]; exact mq2_le)
            rw [ej, ← mq2_s, ← upf_s j0] at this
            exact this
        · refine ⟨p, ?_, fun A W q f h1 h2 => ?_⟩
          · show cm_x 10 3 [some (.inr (.inr 22)), some (.inr (.inr 15)), some (.inl (t0)), some (.inl (s)), some (.inl (m)), some (.inl (j)), none] [] (cm_hp (r92 D p) X) = cm_x 10 3 [some (.inr (.inr 22)), some (.inr (.inr 15)), some (.inl (t0)), some (.inl (s)), some (.inl (m)), some (.inl (j + 1)), none] [] (cm_hp (r92 D p) X)
            rw [sg_X1_placePacket_3, w1, if_pos j1, q22, if_pos (by omega), ck_t (by omega), q23, k1, if_neg h3, ck_t (by omega), if_neg h4, ck_t (by omega), if_neg h5, w2]
          · have := plQ_0 (hP A W q f h1 h2) (t := j.toNat) (v := s + (j - t0)) hgt h3 h4 h5 (by rw [ej]; exact mq2_le)
            rw [ej, ← mq2_s, ← upf_s j0] at this
            exact this) (D 19, D 21) (by omega) (fun A W q f h1 h2 => by
              rw [upf_0]
              unfold mq2
              by_cases h : q ≤ t0
              · rw [if_pos h, show t0 = q by omega]; exact h1
              · rw [if_neg h]; exact h1)
  have R1 : cm_x 10 3 [some (.inr (.inr 22)), some (.inr (.inr 15)), some (.inl (t0)), some (.inl (s)), some (.inl (m)), some (.inl (t0)), none] [] (cm_hp (r92 D (D 19, D 21)) X) = cm_x 10 3 [some (.inr (.inr 22)), some (.inr (.inr 15)), some (.inl (t0)), some (.inl (s)), some (.inl (m)), some (.inl (t0 + m)), none] [] (cm_hp (r92 D (a', b')) X) := R1
  have same : r92 D (D 19, D 21) = D := by
    unfold r92
    dsimp only
    rw [ua_id, ua_id]
  rw [same] at R1
  refine ⟨a', b', ?_, fun A W q f h2 h3 h4 => ?_⟩
  · rw [sg_X1_placePacket_0, R1, sg_X1_placePacket_3, cm_wr_id (x := t0 + m) (by omega) (by omega), if_neg (by omega)]
  · have := R2 A W q f h2 h3
    rw [show mq2 q (t0 + m) = t0 + m by unfold mq2; rw [if_pos h4]] at this
    exact this
