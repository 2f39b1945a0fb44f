/-! running the plain machine by rewriting: ends of calls, checks, updates, loops -/
theorem aft_n (y p0 p : Nat) (L : cm_L) (st : List cm_V) (h : cm_H) : cm_aft y p0 p L st (some (.inl none, h)) = cm_x y p L st h := rfl
theorem aft_v (y p0 p : Nat) (L : cm_L) (st : List cm_V) (v : cm_V) (h : cm_H) : cm_aft y p0 p L st (some (.inl (some v), h)) = cm_x y p L (v :: st) h := rfl
theorem aft_e {y p0 : Nat} (p : Nat) (L : cm_L) (st : List cm_V) {e : Nat} (h : cm_H) (hh : cm_hn (cm_hs y) p0 e = none) : cm_aft y p0 p L st (some (.inr e, h)) = some (.inr e, h) := by
  show (match cm_hn (cm_hs y) p0 e with
      | none => (some (Sum.inr e, h) : cm_R)
      | some t => cm_x y t L [.inr (.inr 300000)] h) = _
  rw [hh]
theorem aft_h {y p0 : Nat} (p : Nat) (L : cm_L) (st : List cm_V) {e t : Nat} (h : cm_H) (hh : cm_hn (cm_hs y) p0 e = some t) : cm_aft y p0 p L st (some (.inr e, h)) = cm_x y t L [.inr (.inr 300000)] h := by
  show (match cm_hn (cm_hs y) p0 e with
      | none => (some (Sum.inr e, h) : cm_R)
      | some t => cm_x y t L [.inr (.inr 300000)] h) = _
  rw [hh]
theorem aft_ite {y p0 p : Nat} {L : cm_L} {st : List cm_V} {c : Prop} [Decidable c] {a b : cm_R} : cm_aft y p0 p L st (if c then a else b) = if c then cm_aft y p0 p L st a else cm_aft y p0 p L st b := by
  by_cases h : c
  · rw [if_pos h, if_pos h]
  · rw [if_neg h, if_neg h]
theorem ck_t {p : Prop} [Decidable p] {r : cm_R} (h : p) : cm_ck p r = r := if_pos h
theorem up_at {D : Nat → Int → Int} {a b : Nat} {i j v : Int} : cm_up D a i v b j = if b = a ∧ j = i then v else D b j := by
  unfold cm_up cm_u1
  by_cases h : b = a
  · subst h
    rw [if_pos rfl]
    by_cases h2 : j = i
    · rw [if_pos h2, if_pos ⟨rfl, h2⟩]
    · rw [if_neg h2, if_neg (fun z => h2 z.2)]
  · rw [if_neg h, if_neg (fun z => h z.1)]
theorem u1_at {g : Int → Int} {i j v : Int} : cm_u1 g i v j = if j = i then v else g j := rfl
theorem ua_at {D : Nat → Int → Int} {a b : Nat} {g : Int → Int} {j : Int} : cm_ua D a g b j = if b = a then g j else D b j := by
  unfold cm_ua
  by_cases h : b = a
  · rw [if_pos h, if_pos h]
  · rw [if_neg h, if_neg h]
theorem cp_at {f g : Int → Int} {sp dp n j : Int} : cm_cp f g sp dp n j = if dp ≤ j ∧ j < dp + n then f (sp + (j - dp)) else g j := rfl
theorem up_id {D : Nat → Int → Int} {a : Nat} {i v : Int} (h : D a i = v) : cm_up D a i v = D := by
  funext b j
  rw [up_at]
  by_cases h2 : b = a ∧ j = i
  · rw [if_pos h2, h2.1, h2.2, h]
  · rw [if_neg h2]
/-- a sum that wraps -/
def smw (f : Int → Int) : Nat → Int
  | 0 => 0
  | n + 1 => cm_wr (smw f n + f n)
theorem smw_congr {f g : Int → Int} : ∀ {n : Nat}, (∀ i : Int, 0 ≤ i → i < n → f i = g i) → smw f n = smw g n := by
  intro n
  induction n with
  | zero => intro _; rfl
  | succ n ih =>
    intro h
    show cm_wr (smw f n + f n) = cm_wr (smw g n + g n)
    rw [ih (fun i h1 h2 => h i h1 (by omega)), h n (by omega) (by omega)]
/-- each at most m: no wrap -/
theorem smw_le {f : Int → Int} {m : Int} (hm : 0 ≤ m) : ∀ {n : Nat}, (∀ i : Int, 0 ≤ i → i < n → 0 ≤ f i ∧ f i ≤ m) → m * n < 2147483648 → 0 ≤ smw f n ∧ smw f n ≤ m * n := by
  intro n
  induction n with
  | zero => intro _ _; exact ⟨Int.le_refl _, by show (0 : Int) ≤ m * ((0 : Nat) : Int); simp⟩
  | succ n ih =>
    intro h hb
    have e1 : m * ((n + 1 : Nat) : Int) = m * n + m := by rw [Int.natCast_add, Int.mul_add]; simp
    rw [e1] at hb ⊢
    obtain ⟨h1, h2⟩ := ih (fun i h3 h4 => h i h3 (by omega)) (by omega)
    obtain ⟨h3, h4⟩ := h n (by omega) (by omega)
    show 0 ≤ cm_wr (smw f n + f n) ∧ cm_wr (smw f n + f n) ≤ _
    rw [cm_wr_id (by omega) (by omega)]
    omega
theorem smw_pos {f : Int → Int} : ∀ {n : Nat}, (∀ i : Int, 0 ≤ i → i < n → 0 ≤ f i ∧ f i ≤ 1) → n < 2147483648 → (0 < smw f n ↔ ∃ i : Int, 0 ≤ i ∧ i < n ∧ f i = 1) := by
  intro n
  induction n with
  | zero => intro _ _; exact ⟨fun h => absurd h (Int.lt_irrefl 0), fun ⟨i, h1, h2, _⟩ => by omega⟩
  | succ n ih =>
    intro h hb
    have hs := smw_le (m := 1) (by omega) (n := n) (fun i h3 h4 => h i h3 (by omega)) (by omega)
    have h3 := h n (by omega) (by omega)
    have ih := ih (fun i h3 h4 => h i h3 (by omega)) (by omega)
    show 0 < cm_wr (smw f n + f n) ↔ _
    rw [cm_wr_id (by omega) (by omega)]
    constructor
    · intro h4
      by_cases h5 : 0 < smw f n
      · obtain ⟨i, a1, a2, a3⟩ := ih.mp h5
        exact ⟨i, a1, by omega, a3⟩
      · exact ⟨n, by omega, by omega, by omega⟩
    · rintro ⟨i, a1, a2, a3⟩
      by_cases h5 : i = n
      · rw [h5] at a3; omega
      · have := ih.mpr ⟨i, a1, by omega, a3⟩
        omega
/-- a loop that sums -/
theorem lp_sum {X : Int → Int → cm_R} {f : Int → Int} {n : Nat} (step : ∀ i a : Int, 0 ≤ i → i < n → X i a = X (i + 1) (cm_wr (a + f i))) : X 0 0 = X n (smw f n) := by
  have key : ∀ k : Nat, k ≤ n → X 0 0 = X k (smw f k) := by
    intro k
    induction k with
    | zero => intro _; rfl
    | succ k ih =>
      intro hk
      rw [ih (by omega), step k _ (by omega) (by omega)]
      rfl
  exact key n (Nat.le_refl _)
/-- a loop whose state is known at each turn -/
theorem lp_fn {α : Type} {X : Int → α → cm_R} {F : Nat → α} {n : Nat} (step : ∀ k : Nat, k < n → X k (F k) = X ((k : Int) + 1) (F (k + 1))) : X 0 (F 0) = X n (F n) := by
  have key : ∀ k : Nat, k ≤ n → X 0 (F 0) = X k (F k) := by
    intro k
    induction k with
    | zero => intro _; rfl
    | succ k ih =>
      intro hk
      rw [ih (by omega), step k (by omega)]
      rfl
  exact key n (Nat.le_refl _)
/-- a loop with an invariant -/
theorem lp_inv {α : Type} {X : Int → α → cm_R} {P : Int → α → Prop} {lo hi : Int} (step : ∀ i s, lo ≤ i → i < hi → P i s → ∃ s', X i s = X (i + 1) s' ∧ P (i + 1) s') : ∀ (s : α), lo ≤ hi → P lo s → ∃ s', X lo s = X hi s' ∧ P hi s' := by
  have key : ∀ (k : Nat) (s : α), lo + k ≤ hi → P lo s → ∃ s', X lo s = X (lo + k) s' ∧ P (lo + k) s' := by
    intro k
    induction k with
    | zero =>
      intro s _ h
      have e : lo + ((0 : Nat) : Int) = lo := by omega
      rw [e]
      exact ⟨s, rfl, h⟩
    | succ k ih =>
      intro s hk h
      obtain ⟨s1, e1, p1⟩ := ih s (by omega) h
      obtain ⟨s2, e2, p2⟩ := step _ s1 (by omega) (by omega) p1
      have e : lo + ((k + 1 : Nat) : Int) = lo + k + 1 := by omega
      rw [e]
      exact ⟨s2, e1.trans e2, p2⟩
  intro s h1 h2
  obtain ⟨s', h3, h4⟩ := key (hi - lo).toNat s (by omega) h2
  have e : lo + ((hi - lo).toNat : Int) = hi := by omega
  rw [e] at h3 h4
  exact ⟨s', h3, h4⟩
/-- the first place of such a kind from lo on, k places; else d -/
def fnd (p : Int → Bool) (d : Int) : Nat → Int → Int
  | 0, _ => d
  | k + 1, i => if p i then i else fnd p d k (i + 1)
theorem fnd_congr {p q : Int → Bool} {d : Int} : ∀ {k : Nat} {i : Int}, (∀ j : Int, i ≤ j → j < i + k → p j = q j) → fnd p d k i = fnd q d k i := by
  intro k
  induction k with
  | zero => intro i _; rfl
  | succ k ih =>
    intro i h
    show (if p i then i else fnd p d k (i + 1)) = (if q i then i else fnd q d k (i + 1))
    rw [h i (by omega) (by omega), ih (fun j h1 h2 => h j (by omega) (by omega))]
theorem fnd_spec {p : Int → Bool} {d : Int} : ∀ {k : Nat} {i : Int}, (∃ j, i ≤ j ∧ j < i + k ∧ p j = true ∧ fnd p d k i = j ∧ ∀ l, i ≤ l → l < j → p l = false) ∨ (fnd p d k i = d ∧ ∀ l, i ≤ l → l < i + k → p l = false) := by
  intro k
  induction k with
  | zero => intro i; exact Or.inr ⟨rfl, fun l h1 h2 => by omega⟩
  | succ k ih =>
    intro i
    show (∃ j, i ≤ j ∧ j < i + ((k + 1 : Nat) : Int) ∧ p j = true ∧ (if p i then i else fnd p d k (i + 1)) = j ∧ ∀ l, i ≤ l → l < j → p l = false) ∨ ((if p i then i else fnd p d k (i + 1)) = d ∧ ∀ l, i ≤ l → l < i + ((k + 1 : Nat) : Int) → p l = false)
    cases hp : p i with
    | true => exact Or.inl ⟨i, by omega, by omega, hp, rfl, fun l h1 h2 => by omega⟩
    | false =>
      rcases ih (i := i + 1) with ⟨j, h1, h2, h3, h4, h5⟩ | ⟨h1, h2⟩
      · refine Or.inl ⟨j, by omega, by omega, h3, h4, fun l h6 h7 => ?_⟩
        by_cases h8 : l = i
        · rw [h8]; exact hp
        · exact h5 l (by omega) h7
      · refine Or.inr ⟨h1, fun l h6 h7 => ?_⟩
        by_cases h8 : l = i
        · rw [h8]; exact hp
        · exact h2 l (by omega) (by omega)
/-- a loop that looks for a place -/
theorem lp_fnd {X : Int → cm_R} {A : Int → cm_R} {p : Int → Bool} {d : Int} : ∀ {k : Nat} {i : Int}, (∀ j : Int, i ≤ j → j < i + k → X j = if p j then A j else X (j + 1)) → X (i + k) = A d → X i = A (fnd p d k i) := by
  intro k
  induction k with
  | zero =>
    intro i _ h
    have e : i + ((0 : Nat) : Int) = i := by omega
    rw [e] at h
    exact h
  | succ k ih =>
    intro i h1 h2
    rw [h1 i (by omega) (by omega)]
    show _ = A (if p i then i else fnd p d k (i + 1))
    cases hp : p i with
    | true => rfl
    | false =>
      have e : i + 1 + (k : Int) = i + ((k + 1 : Nat) : Int) := by omega
      exact ih (fun j h3 h4 => h1 j (by omega) (by omega)) (by rw [e]; exact h2)
