/-! the contents of a writing as a list: order, no two alike -/
variable {S : Nat → Int → Int} {N : Int → Int} {pk : Int}
def Uq (M : List CT) : Prop := ∀ (t t' : Nat) (x : CT), M[t]? = some x → M[t']? = some x → x.1 ≠ 2 → t = t'
def Od (S : Nat → Int → Int) (M : List CT) : Prop := ∀ (t : Nat) (n d : Int), M[t]? = some (4, n, d) → ∀ i : Int, 0 ≤ i → i < S 2 n → S 4 (n * 8 + i) = -1 → ∃ t' : Nat, t' < t ∧ M[t']? = some (3, n, i)
theorem get_lt {A : List CT} {t : Nat} {x : CT} (h : A[t]? = some x) : t < A.length := by
  by_cases h2 : t < A.length
  · exact h2
  · rw [List.getElem?_eq_none (by omega)] at h
    cases h
theorem get_split {A B : List CT} {t : Nat} {x : CT} (h : (A ++ B)[t]? = some x) : (t < A.length ∧ A[t]? = some x) ∨ (A.length ≤ t ∧ B[t - A.length]? = some x) := by
  by_cases ht : t < A.length
  · rw [List.getElem?_append_left ht] at h
    exact Or.inl ⟨ht, h⟩
  · rw [List.getElem?_append_right (by omega)] at h
    exact Or.inr ⟨by omega, h⟩
theorem get_l {A B : List CT} {t : Nat} {x : CT} (h : A[t]? = some x) : (A ++ B)[t]? = some x := by
  rw [List.getElem?_append_left (get_lt h)]; exact h
theorem get_r {A B : List CT} {t : Nat} {x : CT} (h : B[t]? = some x) : (A ++ B)[A.length + t]? = some x := by
  rw [List.getElem?_append_right (by omega), Nat.add_sub_cancel_left]; exact h
theorem Uq_app {A B : List CT} (ha : Uq A) (hb : Uq B) (hd : ∀ x, x ∈ A → x ∈ B → x.1 = 2) : Uq (A ++ B) := by
  intro t t' x h h' hx
  rcases get_split h with ⟨a1, a2⟩ | ⟨a1, a2⟩
  · rcases get_split h' with ⟨b1, b2⟩ | ⟨b1, b2⟩
    · exact ha t t' x a2 b2 hx
    · exact absurd (hd x (List.mem_of_getElem? a2) (List.mem_of_getElem? b2)) hx
  · rcases get_split h' with ⟨b1, b2⟩ | ⟨b1, b2⟩
    · exact absurd (hd x (List.mem_of_getElem? b2) (List.mem_of_getElem? a2)) hx
    · have := hb _ _ x a2 b2 hx
      omega
theorem Od_app {A B : List CT} (ha : Od S A) (hb : Od S B) : Od S (A ++ B) := by
  intro t n d h i i0 i1 i2
  rcases get_split h with ⟨a1, a2⟩ | ⟨a1, a2⟩
  · obtain ⟨t', h1, h2⟩ := ha t n d a2 i i0 i1 i2
    exact ⟨t', h1, get_l h2⟩
  · obtain ⟨t', h1, h2⟩ := hb _ n d a2 i i0 i1 i2
    exact ⟨A.length + t', by omega, get_r h2⟩
theorem Uq_nil : Uq [] := fun t _ x h _ _ => absurd (get_lt h) (Nat.not_lt_zero _)
theorem Uq_one (y : CT) : Uq [y] := fun t t' x h h' _ => by
  have a := get_lt h
  have b := get_lt h'
  simp only [List.length_cons, List.length_nil] at a b
  omega
theorem Uq_ite {c : Prop} [Decidable c] {A : List CT} (h : Uq A) : Uq (if c then A else []) := by
  by_cases hc : c
  · rw [if_pos hc]; exact h
  · rw [if_neg hc]; exact Uq_nil
/-- lists in which no entry stands -/
theorem Od_no {A : List CT} (h : ∀ x ∈ A, x.1 ≠ 4) : Od S A := fun t n d hx => absurd rfl (h _ (List.mem_of_getElem? hx))
theorem pcs_mem {n : Int} : ∀ (c : Nat) (x : CT), x ∈ pcs S n c ↔ ∃ i : Int, 0 ≤ i ∧ i < c ∧ S 4 (n * 8 + i) = -1 ∧ x = (3, n, i) := by
  intro c
  induction c with
  | zero =>
    intro x
    exact ⟨fun z => (by cases z), fun ⟨i, a, b, _⟩ => (by omega)⟩
  | succ c ih =>
    intro x
    have e : pcs S n (c + 1) = pcs S n c ++ (if S 4 (n * 8 + c) = -1 then [(3, n, (c : Int))] else []) := rfl
    rw [e, List.mem_append, ih x]
    constructor
    · rintro (⟨i, a, b, c1, d⟩ | hx)
      · exact ⟨i, a, by omega, c1, d⟩
      · by_cases hq : S 4 (n * 8 + c) = -1
        · rw [if_pos hq, List.mem_singleton] at hx
          exact ⟨c, by omega, by omega, hq, hx⟩
        · rw [if_neg hq] at hx; cases hx
    · rintro ⟨i, a, b, c1, d⟩
      by_cases hi : i < c
      · exact Or.inl ⟨i, a, hi, c1, d⟩
      · have hi : i = c := by omega
        subst hi
        rw [if_pos c1, List.mem_singleton]
        exact Or.inr d
theorem pcs_uq {n : Int} : ∀ c : Nat, Uq (pcs S n c) := by
  intro c
  induction c with
  | zero => exact Uq_nil
  | succ c ih =>
    have e : pcs S n (c + 1) = pcs S n c ++ (if S 4 (n * 8 + c) = -1 then [(3, n, (c : Int))] else []) := rfl
    rw [e]
    refine Uq_app ih (Uq_ite (Uq_one _)) fun x h1 h2 => ?_
    obtain ⟨i, a, b, -, d⟩ := (pcs_mem c x).mp h1
    by_cases hq : S 4 (n * 8 + c) = -1
    · rw [if_pos hq, List.mem_singleton, d] at h2
      have := congrArg (fun z : CT => z.2.2) h2
      dsimp only at this
      omega
    · rw [if_neg hq] at h2; cases h2
theorem pfl_mem {n : Int} (l0 : 0 ≤ S 2 n) (x : CT) : x ∈ pfl S n ↔ (∃ i : Int, 0 ≤ i ∧ i < S 2 n ∧ S 4 (n * 8 + i) = -1 ∧ x = (3, n, i)) ∨ x = (4, n, -1) := by
  unfold pfl
  rw [List.mem_append, List.mem_singleton, pcs_mem, show (((S 2 n).toNat : Nat) : Int) = S 2 n by omega]
theorem pfl_uq {n : Int} : Uq (pfl S n) := by
  unfold pfl
  refine Uq_app (pcs_uq _) (Uq_one _) fun x h1 h2 => ?_
  obtain ⟨i, a, b, -, d⟩ := (pcs_mem _ x).mp h1
  rw [List.mem_singleton, d] at h2
  have := congrArg (fun z : CT => z.1) h2
  dsimp only at this
  omega
theorem pfl_od {n : Int} : Od S (pfl S n) := by
  intro t m d h i i0 i1 i2
  unfold pfl at h ⊢
  rcases get_split h with ⟨a1, a2⟩ | ⟨a1, a2⟩
  · obtain ⟨j, -, -, -, e⟩ := (pcs_mem _ _).mp (List.mem_of_getElem? a2)
    have := congrArg (fun z : CT => z.1) e
    dsimp only at this
    omega
  · have hm := List.mem_of_getElem? a2
    rw [List.mem_singleton] at hm
    have hn := congrArg (fun z : CT => z.2.1) hm
    dsimp only at hn
    rw [hn] at i1 i2 ⊢
    obtain ⟨t', ht⟩ := List.getElem?_of_mem ((pcs_mem (S := S) (n := n) (S 2 n).toNat (3, n, i)).mpr ⟨i, i0, by omega, i2, rfl⟩)
    have := get_lt ht
    exact ⟨t', by omega, get_l ht⟩
theorem pvs_mem (hn : nS S) (hN : ∀ v, N v ≠ -1 → (0 ≤ N v ∧ N v < 12) ∧ S 1 (N v) = v) : ∀ (k : Nat) (x : CT), x ∈ pvs S N k ↔ ∃ v : Int, 1 ≤ v ∧ v ≤ k ∧ N v ≠ -1 ∧ S 3 (N v) ≠ 0 ∧ x ∈ pfl S (N v) := by
  intro k
  induction k with
  | zero =>
    intro x
    exact ⟨fun z => (by cases z), fun ⟨i, a, b, _⟩ => (by omega)⟩
  | succ k ih =>
    intro x
    have e : pvs S N (k + 1) = pvs S N k ++ (if N ((k : Int) + 1) ≠ -1 ∧ S 3 (N ((k : Int) + 1)) ≠ 0 then pfl S (N ((k : Int) + 1)) else []) := rfl
    rw [e, List.mem_append, ih x]
    constructor
    · rintro (⟨v, a, b, c⟩ | hx)
      · exact ⟨v, a, by omega, c⟩
      · by_cases hq : N ((k : Int) + 1) ≠ -1 ∧ S 3 (N ((k : Int) + 1)) ≠ 0
        · rw [if_pos hq] at hx
          exact ⟨(k : Int) + 1, by omega, by omega, hq.1, hq.2, hx⟩
        · rw [if_neg hq] at hx; cases hx
    · rintro ⟨v, a, b, c1, c2, d⟩
      by_cases hv : v ≤ k
      · exact Or.inl ⟨v, a, hv, c1, c2, d⟩
      · have hv : v = (k : Int) + 1 := by omega
        subst hv
        rw [if_pos ⟨c1, c2⟩]
        exact Or.inr d
theorem pfl_nm {n : Int} (l0 : 0 ≤ S 2 n) {x : CT} (hx : x ∈ pfl S n) : x.2.1 = n ∧ (x.1 = 3 ∨ x.1 = 4) := by
  rcases (pfl_mem l0 x).mp hx with ⟨i, -, -, -, e⟩ | e
  · rw [e]; exact ⟨rfl, Or.inl rfl⟩
  · rw [e]; exact ⟨rfl, Or.inr rfl⟩
theorem pvs_uq (hn : nS S) (hN : ∀ v, N v ≠ -1 → (0 ≤ N v ∧ N v < 12) ∧ S 1 (N v) = v) : ∀ k : Nat, Uq (pvs S N k) := by
  intro k
  induction k with
  | zero => exact Uq_nil
  | succ k ih =>
    have e : pvs S N (k + 1) = pvs S N k ++ (if N ((k : Int) + 1) ≠ -1 ∧ S 3 (N ((k : Int) + 1)) ≠ 0 then pfl S (N ((k : Int) + 1)) else []) := rfl
    rw [e]
    refine Uq_app ih (Uq_ite pfl_uq) fun x h1 h2 => ?_
    obtain ⟨v, a, b, c1, c2, d⟩ := (pvs_mem hn hN k x).mp h1
    by_cases hq : N ((k : Int) + 1) ≠ -1 ∧ S 3 (N ((k : Int) + 1)) ≠ 0
    · rw [if_pos hq] at h2
      have w1 := hN _ hq.1
      have w2 := hN _ c1
      have e1 := (pfl_nm (hn.2.1 _ w1.1.1 w1.1.2).2.1.1 h2).1
      have e2 := (pfl_nm (hn.2.1 _ w2.1.1 w2.1.2).2.1.1 d).1
      have e3 : N v = N ((k : Int) + 1) := e2.symm.trans e1
      have e4 := w2.2
      rw [e3, w1.2] at e4
      omega
    · rw [if_neg hq] at h2; cases h2
theorem Od_nil : Od S [] := Od_no (fun x hx => by cases hx)
theorem pvs_od : ∀ k : Nat, Od S (pvs S N k) := by
  intro k
  induction k with
  | zero => exact Od_nil
  | succ k ih =>
    have e : pvs S N (k + 1) = pvs S N k ++ (if N ((k : Int) + 1) ≠ -1 ∧ S 3 (N ((k : Int) + 1)) ≠ 0 then pfl S (N ((k : Int) + 1)) else []) := rfl
    rw [e]
    refine Od_app ih ?_
    by_cases hq : N ((k : Int) + 1) ≠ -1 ∧ S 3 (N ((k : Int) + 1)) ≠ 0
    · rw [if_pos hq]; exact pfl_od
    · rw [if_neg hq]; exact Od_nil
/-- what a content may be -/
def xOk (S : Nat → Int → Int) (x : CT) : Prop := (x.1 = 3 ∧ (0 ≤ x.2.1 ∧ x.2.1 < 12) ∧ (0 ≤ x.2.2 ∧ x.2.2 < S 2 x.2.1) ∧ S 4 (x.2.1 * 8 + x.2.2) = -1 ∧ S 1 x.2.1 ≠ 0 ∧ S 3 x.2.1 ≠ 0) ∨ (x.1 = 4 ∧ x.2.2 = -1 ∧ (0 ≤ x.2.1 ∧ x.2.1 < 12) ∧ S 1 x.2.1 ≠ 0 ∧ S 3 x.2.1 ≠ 0) ∨ (x = (5, -1, -1) ∧ S 0 6 ≠ 0) ∨ x = (2, -1, -1) ∨ x = (6, -1, -1)
def gL (S : Nat → Int → Int) (L : List CT) : Prop := Uq L ∧ Od S L ∧ (∀ x ∈ L, xOk S x) ∧ (∀ n, 0 ≤ n → n < 12 → S 3 n ≠ 0 → (4, n, -1) ∈ L) ∧ (S 0 6 ≠ 0 → (5, -1, -1) ∈ L) ∧ 0 < L.length ∧ L[L.length - 1]? = some (6, -1, -1)
theorem Uq_rep (k : Nat) : Uq (List.replicate k (2, -1, -1)) := fun t t' x h _ hx => absurd (by
  have := List.mem_of_getElem? h
  rw [List.mem_replicate] at this
  rw [this.2]) hx
theorem pl0_x (hn : nS S) (hN : ∀ v, N v ≠ -1 → (0 ≤ N v ∧ N v < 12) ∧ S 1 (N v) = v) {x : CT} (hx : x ∈ pl0 S N) : xOk S x ∧ x.1 ≠ 2 ∧ x.1 ≠ 6 := by
  unfold pl0 at hx
  rw [List.mem_append] at hx
  rcases hx with hx | hx
  · obtain ⟨v, v0, v1, c1, c2, d⟩ := (pvs_mem hn hN 12 x).mp hx
    have w := hN v c1
    have hl := (hn.2.1 _ w.1.1 w.1.2).2.1
    rcases (pfl_mem hl.1 x).mp d with ⟨i, i0, i1, i2, e⟩ | e
    · rw [e]
      exact ⟨Or.inl ⟨rfl, w.1, ⟨i0, i1⟩, i2, by show S 1 (N v) ≠ 0; omega, c2⟩, by show ¬ (3 : Int) = 2; omega, by show ¬ (3 : Int) = 6; omega⟩
    · rw [e]
      exact ⟨Or.inr (Or.inl ⟨rfl, rfl, w.1, by show S 1 (N v) ≠ 0; omega, c2⟩), by show ¬ (4 : Int) = 2; omega, by show ¬ (4 : Int) = 6; omega⟩
  · by_cases hq : S 0 6 = 0
    · rw [if_pos hq] at hx; cases hx
    · rw [if_neg hq, List.mem_singleton] at hx
      rw [hx]
      exact ⟨Or.inr (Or.inr (Or.inl ⟨rfl, hq⟩)), by show ¬ (5 : Int) = 2; omega, by show ¬ (5 : Int) = 6; omega⟩
theorem pl_g (hn : nS S) (hN : ∀ v, N v ≠ -1 → (0 ≤ N v ∧ N v < 12) ∧ S 1 (N v) = v) (hM : ∀ n, 0 ≤ n → n < 12 → S 1 n ≠ 0 → N (S 1 n) = n) : gL S (pl S N pk) := by
  have hx0 := fun x hx => pl0_x (x := x) hn hN hx
  have hd : ∀ x ∈ (if S 0 6 = 0 then [] else [((5, -1, -1) : CT)]), x = (5, -1, -1) := fun x hx => by
    by_cases hq : S 0 6 = 0
    · rw [if_pos hq] at hx; cases hx
    · rw [if_neg hq, List.mem_singleton] at hx; exact hx
  have hv : ∀ x ∈ pvs S N 12, x.1 = 3 ∨ x.1 = 4 := fun x hx => by
    obtain ⟨v, v0, v1, c1, c2, d⟩ := (pvs_mem hn hN 12 x).mp hx
    have w := hN v c1
    exact (pfl_nm (hn.2.1 _ w.1.1 w.1.2).2.1.1 d).2
  refine ⟨?_, ?_, fun x hx => ?_, fun n n0 n1 h3 => ?_, fun h6 => ?_, ?_, ?_⟩
  · unfold pl
    refine Uq_app (Uq_app ?_ (Uq_rep _) fun x h1 h2 => ?_) (Uq_one _) fun x h1 h2 => ?_
    · unfold pl0
      refine Uq_app (pvs_uq hn hN 12) ?_ fun x h1 h2 => ?_
      · by_cases hq : S 0 6 = 0
        · rw [if_pos hq]; exact Uq_nil
        · rw [if_neg hq]; exact Uq_one _
      · have := hd x h2
        have h3 := hv x h1
        rw [this] at h3
        dsimp only at h3
        omega
    · rw [List.mem_replicate] at h2
      rw [h2.2]
    · rw [List.mem_singleton] at h2
      rw [List.mem_append] at h1
      rcases h1 with h1 | h1
      · exact absurd (by rw [h2]) (hx0 x h1).2.2
      · rw [List.mem_replicate] at h1
        rw [h1.2]
  · unfold pl
    refine Od_app (Od_app ?_ (Od_no fun x hx => ?_)) (Od_no fun x hx => ?_)
    · unfold pl0
      refine Od_app (pvs_od 12) (Od_no fun x hx => ?_)
      rw [hd x hx]
      show ¬ (5 : Int) = 4
      omega
    · rw [List.mem_replicate] at hx
      rw [hx.2]
      show ¬ (2 : Int) = 4
      omega
    · rw [List.mem_singleton] at hx
      rw [hx]
      show ¬ (6 : Int) = 4
      omega
  · unfold pl at hx
    rw [List.mem_append, List.mem_append, List.mem_singleton, List.mem_replicate] at hx
    rcases hx with (hx | hx) | hx
    · exact (hx0 x hx).1
    · exact Or.inr (Or.inr (Or.inr (Or.inl hx.2)))
    · exact Or.inr (Or.inr (Or.inr (Or.inr hx)))
  · have h1 : S 1 n ≠ 0 := fun z => h3 ((hn.2.1 n n0 n1).2.2.2 z).2
    have hb := (hn.2.1 n n0 n1).1
    have e := hM n n0 n1 h1
    unfold pl pl0
    rw [List.mem_append, List.mem_append, List.mem_append]
    refine Or.inl (Or.inl (Or.inl ((pvs_mem hn hN 12 _).mpr ⟨S 1 n, by omega, by omega, by omega, by rw [e]; exact h3, ?_⟩)))
    rw [e]
    exact (pfl_mem (hn.2.1 n n0 n1).2.1.1 _).mpr (Or.inr rfl)
  · unfold pl pl0
    rw [List.mem_append, List.mem_append, List.mem_append, if_neg h6, List.mem_singleton]
    exact Or.inl (Or.inl (Or.inr rfl))
  · unfold pl
    simp only [List.length_append, List.length_cons, List.length_nil]
    omega
  · have e : ∀ A : List CT, (A ++ [((6, -1, -1) : CT)])[(A ++ [((6, -1, -1) : CT)]).length - 1]? = some (6, -1, -1) := fun A => by
      have e2 : (A ++ [((6, -1, -1) : CT)]).length - 1 = A.length + 0 := by
        simp only [List.length_append, List.length_cons, List.length_nil]
        omega
      rw [e2]
      exact get_r rfl
    exact e _
