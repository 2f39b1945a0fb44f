/-! the contents of a writing: both -/
variable {D E : Nat → Int → Int} {X : cm_X} {K B K' B' : Int → Int} {h pk t : Int} {S : Nat → Int → Int} {r : Int → Int}
abbrev CT := Int × Int × Int
/-- the new cells of a file -/
def pcs (S : Nat → Int → Int) (n : Int) : Nat → List CT
  | 0 => []
  | c + 1 => pcs S n c ++ (if S 4 (n * 8 + c) = -1 then [(3, n, (c : Int))] else [])
def pfl (S : Nat → Int → Int) (n : Int) : List CT := pcs S n (S 2 n).toNat ++ [(4, n, -1)]
def pvs (S : Nat → Int → Int) (N : Int → Int) : Nat → List CT
  | 0 => []
  | k + 1 => pvs S N k ++ (if N ((k : Int) + 1) ≠ -1 ∧ S 3 (N ((k : Int) + 1)) ≠ 0 then pfl S (N ((k : Int) + 1)) else [])
def pl0 (S : Nat → Int → Int) (N : Int → Int) : List CT := pvs S N 12 ++ (if S 0 6 = 0 then [] else [(5, -1, -1)])
theorem pcs_len (n : Int) (c : Nat) : (pcs S n c).length ≤ c := by
  induction c with
  | zero => exact Nat.le_refl _
  | succ c ih =>
    unfold pcs
    rw [List.length_append]
    split
    · simp only [List.length_cons, List.length_nil]; omega
    · simp only [List.length_nil]; omega
theorem pfl_len {n : Int} (h8 : S 2 n ≤ 8) : (pfl S n).length ≤ 9 := by
  unfold pfl
  have := pcs_len (S := S) n (S 2 n).toNat
  simp only [List.length_append, List.length_cons, List.length_nil]
  omega
theorem pvs_len {N : Int → Int} (hN : ∀ v, N v ≠ -1 → 0 ≤ N v ∧ N v < 12) (h8 : ∀ n, 0 ≤ n → n < 12 → S 2 n ≤ 8) (k : Nat) : (pvs S N k).length ≤ 9 * k := by
  induction k with
  | zero => exact Nat.le_refl _
  | succ k ih =>
    unfold pvs
    rw [List.length_append]
    split
    · rename_i hc
      have := hN _ hc.1
      have := pfl_len (S := S) (h8 _ this.1 this.2)
      omega
    · simp only [List.length_nil]; omega
theorem pl0_len {N : Int → Int} (hN : ∀ v, N v ≠ -1 → 0 ≤ N v ∧ N v < 12) (h8 : ∀ n, 0 ≤ n → n < 12 → S 2 n ≤ 8) : (pl0 S N).length ≤ 109 := by
  have := pvs_len hN h8 12
  unfold pl0
  rw [List.length_append]
  split
  · simp only [List.length_nil]; omega
  · simp only [List.length_cons, List.length_nil]; omega
/-- the class holds these contents -/
def cHol (F : Nat → Int → Int) (L : List CT) : Prop := F 22 3 = L.length ∧ ∀ (t : Nat) (x : CT), L[t]? = some x → F 23 t = x.1 ∧ F 24 t = x.2.1 ∧ F 25 t = x.2.2
def whs (x : CT) : Int := if x.1 = 3 then 8 * x.2.1 + x.2.2 else if x.1 = 4 then x.2.1 else 0
/-- the reference holds these contents -/
def mHol (F : Nat → Int → Int) (L : List CT) : Prop := F 613 25 = L.length ∧ ∀ (t : Nat) (x : CT), L[t]? = some x → F 622 t = x.1 ∧ F 623 t = whs x
theorem get_app {L : List CT} {y x : CT} {t : Nat} (hx : (L ++ [y])[t]? = some x) : (t < L.length ∧ L[t]? = some x) ∨ (t = L.length ∧ x = y) := by
  by_cases ht : t < L.length
  · rw [List.getElem?_append_left ht] at hx
    exact Or.inl ⟨ht, hx⟩
  · have h1 : t < (L ++ [y]).length := by
      by_cases h2 : t < (L ++ [y]).length
      · exact h2
      · rw [List.getElem?_eq_none (by omega)] at hx
        cases hx
    rw [List.length_append, List.length_cons, List.length_nil] at h1
    have h3 : t = L.length := by omega
    subst h3
    rw [List.getElem?_append_right (Nat.le_refl _), Nat.sub_self, List.getElem?_cons_zero] at hx
    exact Or.inr ⟨rfl, (Option.some.inj hx).symm⟩
theorem ev_add {L : List CT} {F : Nat → Int → Int} (hF : cHol F L) (hl : L.length < 126) (k n c : Int) : ∃ F', cm_x 8 0 [some (.inr (.inr 22)), some (.inl (k)), some (.inl (n)), some (.inl (c))] [] (cm_hp F X) = some (.inl none, cm_hp F' X) ∧ cHol F' (L ++ [(k, n, c)]) ∧ ∀ x : Nat, x < 22 ∨ 26 ≤ x → F' x = F x := by
  obtain ⟨h1, h2⟩ := hF
  refine ⟨cm_up (cm_up (cm_up (cm_up F 23 (F 22 3) k) 24 (F 22 3) n) 25 (F 22 3) c) 22 3 (F 22 3 + 1), ?_, ⟨?_, fun t x hx => ?_⟩, fun x hx => ?_⟩
  · rw [sg_X1_add_0, if_pos (by omega), ck_t (by omega), ck_t (by omega), ck_t (by omega), cm_wr_id (by omega) (by omega)]
  · rw [List.length_append, List.length_cons, List.length_nil, up_same, u1_eq]
    omega
  · rw [up_row (by omega), up_row (by omega), up_row (by omega), up_same, up_row (by omega), up_row (by omega), up_same, up_row (by omega), up_row (by omega), up_same, up_row (by omega), up_row (by omega)]
    rcases get_app hx with ⟨ht, hx⟩ | ⟨ht, hx⟩
    · rw [u1_ne (by omega), u1_ne (by omega), u1_ne (by omega)]
      exact h2 t x hx
    · rw [hx, ht, h1, u1_eq, u1_eq, u1_eq]
      exact ⟨rfl, rfl, rfl⟩
  · rw [up_row (by omega), up_row (by omega), up_row (by omega), up_row (by omega)]
theorem ev_mContent {L : List CT} {F : Nat → Int → Int} (hF : mHol F L) (hl : L.length < 130) (y : CT) : ∃ F', cm_x 199 0 [some (.inr (.inr 613)), some (.inl (y.1)), some (.inl (whs y))] [] (cm_hp F X) = some (.inl none, cm_hp F' X) ∧ mHol F' (L ++ [y]) ∧ (∀ j, j ≠ 25 → F' 613 j = F 613 j) ∧ ∀ x : Nat, x ≠ 613 → x ≠ 622 → x ≠ 623 → F' x = F x := by
  obtain ⟨h1, h2⟩ := hF
  refine ⟨cm_up (cm_up (cm_up F 622 (F 613 25) y.1) 623 (F 613 25) (whs y)) 613 25 (F 613 25 + 1), ?_, ⟨?_, fun t x hx => ?_⟩, fun j hj => ?_, fun x x1 x2 x3 => ?_⟩
  · rw [sg_X9_content_0, ck_t (by omega), ck_t (by omega), cm_wr_id (by omega) (by omega)]
  · rw [List.length_append, List.length_cons, List.length_nil, up_same, u1_eq]
    omega
  · rw [up_row (by omega), up_row (by omega), up_same, up_row (by omega), up_same, up_row (by omega)]
    rcases get_app hx with ⟨ht, hx⟩ | ⟨ht, hx⟩
    · rw [u1_ne (by omega), u1_ne (by omega)]
      exact h2 t x hx
    · rw [hx, ht, h1, u1_eq, u1_eq]
      exact ⟨rfl, rfl⟩
  · rw [up_same, u1_ne hj, up_row (by omega), up_row (by omega)]
  · rw [up_row x1, up_row x3, up_row x2]
