/-! THE PLAIN MACHINE AND THE REAL ONE: what is held against what -/
/-- base, script's cell, its length; the script; the classes' numbers, their slots; the rows' classes (int, boolean, long, State); where the six texts are, and their bytes -/
abbrev cm_Z : Type := (Nat × Nat × Nat) × (Nat → Int32) × ((Nat → ClassId) × (Nat → Nat → Nat)) × (ClassId × ClassId × ClassId × ClassId) × ((Nat → Nat) × (Nat → Nat))
abbrev zB (Z : cm_Z) : Nat := Z.1.1
abbrev zS (Z : cm_Z) : Nat := Z.1.2.1
abbrev zL (Z : cm_Z) : Nat := Z.1.2.2
abbrev zX (Z : cm_Z) : Nat → Int32 := Z.2.1
abbrev zD (Z : cm_Z) : va_G := Z.2.2.1
abbrev zI (Z : cm_Z) : ClassId := Z.2.2.2.1.1
abbrev zO (Z : cm_Z) : ClassId := Z.2.2.2.1.2.1
abbrev zJ (Z : cm_Z) : ClassId := Z.2.2.2.1.2.2.1
abbrev zR (Z : cm_Z) : ClassId := Z.2.2.2.1.2.2.2
abbrev zK (Z : cm_Z) : Nat → Nat := Z.2.2.2.2.1
abbrev zV (Z : cm_Z) : Nat → Nat := Z.2.2.2.2.2
abbrev zT (Z : cm_Z) : List (ClassId × FieldType) := [(zI Z, .int), (zO Z, .boolean), (zJ Z, .long), (zR Z, .object RX6)]
abbrev zA (Z : cm_Z) : Nat → Prop := fun q => zB Z ≤ q
/-- a value -/
def cm_vr (Z : cm_Z) (v : Value) (a : cm_V) : Prop := match a with
  | .inl x => ∃ i : Int32, v = .int i ∧ i.toInt = x
  | .inr (.inl x) => v = .long x
  | .inr (.inr n) => if n < 100000 then v = .ref (zB Z + n) else if n = 100000 then v = .ref (zS Z) else if n < 300000 then ∃ k, k < 6 ∧ k % 3 = n - 200000 ∧ v = .ref (zK Z k) else ∃ q, v = .ref q
def cm_sr (Z : cm_Z) (st : List cm_V) (rst : List Value) : Prop := match st, rst with
  | [], [] => True
  | a :: st, v :: rst => cm_vr Z v a ∧ cm_sr Z st rst
  | _, _ => False
def cm_lr (Z : cm_Z) (L : cm_L) (rls : Array Slot) : Prop := ∃ lv, lv_has rls L.length lv ∧ ∀ (i : Nat) (a : cm_V), L[i]? = some (some a) → ∃ v, (i, v) ∈ lv ∧ cm_vr Z v a
def cm_fr (Z : cm_Z) (h : cm_H) (k j t : Nat) (fs : List Value) : Prop := if t = 2 then (h.2.1 k (j : Int) < 300000 → h.2.1 k (j : Int) < 100000 ∧ fs[j]? = some (.ref (zB Z + h.2.1 k (j : Int)))) else ∃ i : Int32, fs[j]? = some (.int i) ∧ i.toInt = h.2.2.1 k (j : Int)
/-- a cell -/
def cm_ce (Z : cm_Z) (h : cm_H) (k : Nat) (e : va_E) : Prop := match e with
  | .inr (ci, fs) => h.1 k = (0, ci) ∧ ∃ q, cm_vw[ci]? = some q ∧ fs.length = q.2.2 ∧ ∀ j, j < q.2.2 → cm_fr Z h k j (cm_tc (q.2.1 j).2.2.1) fs
  | .inl (cA, n, .inl f) => ((cA = zI Z ∧ h.1 k = (1, n)) ∨ (cA = zO Z ∧ h.1 k = (2, n))) ∧ ∀ j, j < n → (f j).toInt = h.2.2.1 k (j : Int)
  | .inl (cA, n, .inr (.inl f)) => cA = zJ Z ∧ h.1 k = (3, n) ∧ ∀ j, j < n → f j = h.2.2.2.1 k (j : Int)
  | .inl (cA, n, .inr (.inr (.inr (.inr f)))) => cA = zR Z ∧ h.1 k = (4, n) ∧ ∀ j, j < n → h.2.1 k (j : Int) < 300000 → h.2.1 k (j : Int) < 100000 ∧ f j = some (zB Z + h.2.1 k (j : Int))
  | _ => False
/-- the heap -/
def cm_hr (Z : cm_Z) (h : cm_H) (H : Heap) : Prop := ∃ ws : va_W, va_P (zD Z) cm_vw ws H ∧ va_D (zA Z) ws ∧ ws.length = h.2.2.2.2.1 ∧ h.2.2.2.2.1 ≤ 100000 ∧ h.2.2.2.2.1 ≤ h.2.2.2.2.2.1 ∧
  (∀ k, k < h.2.2.2.2.1 → ∃ e, ws[k]? = some (zB Z + k, e) ∧ cm_ce Z h k e) ∧ (∀ a, h.2.2.2.2.1 ≤ a → a ≠ 100000 → h.1 a = (9, 0)) ∧ h.1 100000 = (1, zL Z) ∧ (∀ j, j < zL Z → (zX Z j).toInt = h.2.2.1 100000 (j : Int)) ∧ ∀ a, (h.1 a).1 = 1 → (h.1 a).2 < 2147483648
/-- what is known of the tables and of what lies below the base -/
def cm_cx (Z : cm_Z) (s : State) : Prop := (∀ w ∈ lw_tbl, cm_two w = true → w.before #[] s = true) ∧ va_AO RX6 s ∧ va_K (zD Z) cm_vw (zT Z) s ∧ va_X (zS Z) (zL Z) (zX Z) s s.heap ∧ zS Z < zB Z ∧ zB Z ≤ s.heap.size ∧
  vx_Zq Bundle.tN "UNASSIGNED_STACK" Bundle.steD (zA Z) s s.heap ∧ vx_Zq Bundle.tN "SUPPRESSED_SENTINEL" Bundle.listD (zA Z) s s.heap ∧ (∀ q ∈ cm_strs, ∃ a, vk_R q.1 q.2.1 q.2.2 a s) ∧ (∀ i q, cm_lits[i]? = some q → vk_R q.1 q.2.1 q.2.2 (zK Z i) s) ∧
  (vk_S 3 cm_len cm_byt (zK Z) (zV Z) (zA Z) s s.heap ∧ vk_S 3 cm_len cm_byt (fun i => zK Z (i + 3)) (fun i => zV Z (i + 3)) (zA Z) s s.heap) ∧ (va_Z "java/lang/String" "COMPACT_STRINGS" "Z" (.int 1) (zA Z) s s.heap ∧ va_Zq "jdk/internal/util/Preconditions" "SIOOBE_FORMATTER" "Ljava/util/function/BiFunction;" (zA Z) s s.heap) ∧ va_Nc "java/lang/IllegalArgumentException" "java/util/NoSuchElementException" s
theorem cm_vr_i {Z : cm_Z} {v : Value} {x : Int} (h : cm_vr Z v (.inl x)) : ∃ i : Int32, v = .int i ∧ i.toInt = x := h
theorem cm_vr_l {Z : cm_Z} {v : Value} {x : Int64} (h : cm_vr Z v (.inr (.inl x))) : v = .long x := h
theorem cm_vr_r {Z : cm_Z} {v : Value} {n : Nat} (h : cm_vr Z v (.inr (.inr n))) : ∃ q, v = .ref q := by
  unfold cm_vr at h
  simp only at h
  split at h
  · exact ⟨_, h⟩
  · split at h
    · exact ⟨_, h⟩
    · split at h
      · obtain ⟨k, -, -, h⟩ := h; exact ⟨_, h⟩
      · exact h
theorem cm_vr_c {Z : cm_Z} {v : Value} {n : Nat} (h : cm_vr Z v (.inr (.inr n))) (hn : n < 100000) : v = .ref (zB Z + n) := by
  unfold cm_vr at h
  simp only [hn, if_true] at h
  exact h
theorem cm_vr_cI {Z : cm_Z} {n : Nat} (hn : n < 100000) : cm_vr Z (.ref (zB Z + n)) (.inr (.inr n)) := by
  unfold cm_vr
  simp only [hn, if_true]
theorem cm_cat_eq {Z : cm_Z} {v : Value} {a : cm_V} (h : cm_vr Z v a) : v.category = cm_cat a := by
  rcases a with x | x | x
  · obtain ⟨i, rfl, -⟩ := cm_vr_i h; rfl
  · rw [cm_vr_l h]; rfl
  · obtain ⟨q, rfl⟩ := cm_vr_r h; rfl
theorem cm_sr_cons {Z : cm_Z} {a : cm_V} {st : List cm_V} {rst : List Value} (h : cm_sr Z (a :: st) rst) : ∃ v r, rst = v :: r ∧ cm_vr Z v a ∧ cm_sr Z st r := by
  cases rst with
  | nil => exact h.elim
  | cons v r => exact ⟨v, r, rfl, h.1, h.2⟩
theorem cm_sr_nil {Z : cm_Z} {rst : List Value} (h : cm_sr Z [] rst) : rst = [] := by
  cases rst with
  | nil => rfl
  | cons v r => exact h.elim
theorem cm_sr_i {Z : cm_Z} {x : Int} {st : List cm_V} {rst : List Value} (h : cm_sr Z (.inl x :: st) rst) : ∃ (i : Int32) (r : List Value), rst = .int i :: r ∧ i.toInt = x ∧ cm_sr Z st r := by
  obtain ⟨v, r, rfl, hv, hs⟩ := cm_sr_cons h
  obtain ⟨i, rfl, hi⟩ := cm_vr_i hv
  exact ⟨i, r, rfl, hi, hs⟩
theorem cm_sr_l {Z : cm_Z} {x : Int64} {st : List cm_V} {rst : List Value} (h : cm_sr Z (.inr (.inl x) :: st) rst) : ∃ (r : List Value), rst = .long x :: r ∧ cm_sr Z st r := by
  obtain ⟨v, r, rfl, hv, hs⟩ := cm_sr_cons h
  rw [cm_vr_l hv]
  exact ⟨r, rfl, hs⟩
theorem cm_sr_r {Z : cm_Z} {x : Nat} {st : List cm_V} {rst : List Value} (h : cm_sr Z (.inr (.inr x) :: st) rst) : ∃ (q : Nat) (r : List Value), rst = .ref q :: r ∧ cm_vr Z (.ref q) (.inr (.inr x)) ∧ cm_sr Z st r := by
  obtain ⟨v, r, rfl, hv, hs⟩ := cm_sr_cons h
  obtain ⟨q, rfl⟩ := cm_vr_r hv
  exact ⟨q, r, rfl, hv, hs⟩
theorem cm_sr_wd {Z : cm_Z} {st : List cm_V} : ∀ {rst : List Value}, cm_sr Z st rst → (rst.map fun v => v.category).sum = cm_wd st := by
  induction st with
  | nil => intro rst h; rw [cm_sr_nil h]; rfl
  | cons a st ih =>
    intro rst h
    obtain ⟨v, r, rfl, hv, hs⟩ := cm_sr_cons h
    simp only [List.map_cons, List.sum_cons, cm_wd]
    rw [cm_cat_eq hv, ih hs]
    rfl
/-- locals -/
theorem cm_lr_at {Z : cm_Z} {L : cm_L} {rls : Array Slot} (h : cm_lr Z L rls) {i : Nat} {a : cm_V} (hi : L[i]? = some (some a)) : ∃ v, rls[i]? = some (.val v) ∧ cm_vr Z v a := by
  obtain ⟨lv, h1, h2⟩ := h
  obtain ⟨v, hm, hv⟩ := h2 i a hi
  exact ⟨v, h1.2.2 _ hm, hv⟩
theorem cm_lr_size {Z : cm_Z} {L : cm_L} {rls : Array Slot} (h : cm_lr Z L rls) : rls.size = L.length := by
  obtain ⟨lv, h1, -⟩ := h
  exact h1.1
/-- fewer are known -/
theorem cm_lr_less {Z : cm_Z} {L L' : cm_L} {rls : Array Slot} (h : cm_lr Z L rls) (hl : L'.length = L.length) (hs : ∀ (i : Nat) (a : cm_V), L'[i]? = some (some a) → L[i]? = some (some a)) : cm_lr Z L' rls := by
  obtain ⟨lv, h1, h2⟩ := h
  exact ⟨lv, by rw [hl]; exact h1, fun i a hi => h2 i a (hs i a hi)⟩
theorem cm_fg_len (a : Nat) (L : cm_L) : (cm_fg a L).length = L.length := by
  unfold cm_fg
  split
  · rfl
  · rename_i n
    simp only [List.length_append, List.length_take, List.length_replicate]
    omega
theorem cm_lr_fg {Z : cm_Z} {L : cm_L} {rls : Array Slot} (h : cm_lr Z L rls) (a : Nat) : cm_lr Z (cm_fg a L) rls := by
  refine cm_lr_less h (cm_fg_len a L) ?_
  intro i v hi
  unfold cm_fg at hi
  split at hi
  · exact hi
  · rename_i n
    by_cases hn : i < (L.take n).length
    · rw [List.getElem?_append_left hn] at hi
      rw [List.length_take] at hn
      rw [List.getElem?_take_of_lt (by omega)] at hi
      exact hi
    · rw [List.getElem?_append_right (by omega)] at hi
      have := List.mem_of_getElem? hi
      rw [List.mem_replicate] at this
      exact absurd this.2 (by simp)
theorem cm_kl_len (L : cm_L) (i : Nat) : (cm_kl L i).length = L.length := by
  unfold cm_kl
  split
  · rfl
  · split
    · simp
    · rfl
theorem cm_kl_le {L : cm_L} {i j : Nat} {a : cm_V} (h : (cm_kl L i)[j]? = some (some a)) : L[j]? = some (some a) ∧ ¬ (j + 1 = i ∧ cm_cat a = 2) := by
  unfold cm_kl at h
  split at h
  · exact ⟨h, by omega⟩
  · rename_i k
    split at h
    · rename_i x e
      by_cases hj : k = j
      · subst hj
        rw [List.getElem?_set] at h
        simp only [if_true] at h
        split at h <;> cases h
      · rw [List.getElem?_set_ne hj] at h
        exact ⟨h, by omega⟩
    · rename_i e
      refine ⟨h, ?_⟩
      rintro ⟨h1, h2⟩
      have : j = k := by omega
      subst this
      rcases a with x | x | x
      · cases h2
      · exact e _ h
      · cases h2
theorem cm_st1 {Z : cm_Z} {L : cm_L} {lv : List (Nat × Value)} (h2 : ∀ (i : Nat) (a : cm_V), L[i]? = some (some a) → ∃ v, (i, v) ∈ lv ∧ cm_vr Z v a) {i : Nat} (hi : i < L.length) {v : Value} {a : cm_V} (hv : cm_vr Z v a) {rls' : Array Slot} (h' : lv_has rls' L.length ((i, v) :: lv.filter (fun q => !(q.1 == i) && !(q.1 + 1 == i && q.2.category == 2)))) : cm_lr Z ((cm_kl L i).set i (some a)) rls' := by
  refine ⟨_, by rw [List.length_set, cm_kl_len]; exact h', fun j b hj => ?_⟩
  by_cases hji : i = j
  · subst hji
    rw [List.getElem?_set] at hj
    simp only [if_true, cm_kl_len, hi] at hj
    cases hj
    exact ⟨v, List.mem_cons_self, hv⟩
  · rw [List.getElem?_set_ne hji] at hj
    obtain ⟨hj, hk⟩ := cm_kl_le hj
    obtain ⟨w, hm, hw⟩ := h2 j b hj
    refine ⟨w, List.mem_cons_of_mem _ (List.mem_filter.mpr ⟨hm, ?_⟩), hw⟩
    have e1 : (j == i) = false := by simpa using fun e => hji e.symm
    have e2 : (j + 1 == i && w.category == 2) = false := by
      rw [cm_cat_eq hw]
      cases e3 : (j + 1 == i) with
      | false => rfl
      | true =>
        have e4 : j + 1 = i := by simpa using e3
        have : ¬ cm_cat b = 2 := fun e => hk ⟨e4, e⟩
        simpa using this
    simp [e1, e2]
theorem cm_st2 {Z : cm_Z} {L : cm_L} {lv : List (Nat × Value)} (h2 : ∀ (i : Nat) (a : cm_V), L[i]? = some (some a) → ∃ v, (i, v) ∈ lv ∧ cm_vr Z v a) {i : Nat} (hi : i + 1 < L.length) {v : Value} {a : cm_V} (hv : cm_vr Z v a) {rls' : Array Slot} (h' : lv_has rls' L.length ((i, v) :: lv.filter (fun q => !(q.1 == i) && (!(q.1 == i + 1) && !(q.1 + 1 == i && q.2.category == 2))))) : cm_lr Z (((cm_kl L i).set i (some a)).set (i + 1) none) rls' := by
  refine ⟨_, by rw [List.length_set, List.length_set, cm_kl_len]; exact h', fun j b hj => ?_⟩
  by_cases hj1 : i + 1 = j
  · subst hj1
    rw [List.getElem?_set] at hj
    simp only [if_true] at hj
    split at hj <;> cases hj
  · rw [List.getElem?_set_ne hj1] at hj
    by_cases hji : i = j
    · subst hji
      rw [List.getElem?_set] at hj
      simp only [if_true, cm_kl_len, show i < L.length by omega] at hj
      cases hj
      exact ⟨v, List.mem_cons_self, hv⟩
    · rw [List.getElem?_set_ne hji] at hj
      obtain ⟨hj, hk⟩ := cm_kl_le hj
      obtain ⟨w, hm, hw⟩ := h2 j b hj
      refine ⟨w, List.mem_cons_of_mem _ (List.mem_filter.mpr ⟨hm, ?_⟩), hw⟩
      have e1 : (j == i) = false := by simpa using fun e => hji e.symm
      have e0 : (j == i + 1) = false := by simpa using fun e => hj1 e.symm
      have e2 : (j + 1 == i && w.category == 2) = false := by
        rw [cm_cat_eq hw]
        cases e3 : (j + 1 == i) with
        | false => rfl
        | true =>
          have e4 : j + 1 = i := by simpa using e3
          have : ¬ cm_cat b = 2 := fun e => hk ⟨e4, e⟩
          simpa using this
      simp [e1, e2, e0]
/-- numbers -/
theorem cm_wr_b (x : Int) : x.bmod (2 ^ 32) = cm_wr x := by
  unfold cm_wr
  rw [Int.bmod_def]
  simp only [show (((2 ^ 32 : Nat) : Int)) = 4294967296 by decide]
  split <;> omega
theorem cm_add (x y : Int32) : (x + y).toInt = cm_wr (x.toInt + y.toInt) := by rw [Int32.toInt_add, cm_wr_b]
theorem cm_sub (x y : Int32) : (x - y).toInt = cm_wr (x.toInt - y.toInt) := by rw [Int32.toInt_sub, cm_wr_b]
theorem cm_mul (x y : Int32) : (x * y).toInt = cm_wr (x.toInt * y.toInt) := by rw [Int32.toInt_mul, cm_wr_b]
theorem cm_div (x y : Int32) : (x / y).toInt = cm_wr (x.toInt.tdiv y.toInt) := by rw [Int32.toInt_div, cm_wr_b]
theorem cm_rng (x : Int32) : -2147483648 ≤ x.toInt ∧ x.toInt < 2147483648 := by
  have h1 := x.le_toInt
  have h2 := x.toInt_lt
  omega
theorem cm_wr_id {x : Int} (h : -2147483648 ≤ x) (h' : x < 2147483648) : cm_wr x = x := by unfold cm_wr; omega
theorem cm_wr_e (x : Int) : ∃ k : Int, cm_wr x = x + k * 4294967296 := ⟨-((x + 2147483648) / 4294967296), by unfold cm_wr; omega⟩
theorem cm_rem (x y : Int32) (hy : ¬ y.toInt = 0) : (x - x / y * y).toInt = x.toInt.tmod y.toInt := by
  rw [cm_sub, cm_mul, cm_div]
  have hx := cm_rng x
  have hY := cm_rng y
  generalize x.toInt = a at hx ⊢
  generalize y.toInt = b at hY hy ⊢
  obtain ⟨k1, e1⟩ := cm_wr_e (a.tdiv b)
  obtain ⟨k2, e2⟩ := cm_wr_e (cm_wr (a.tdiv b) * b)
  have hd : a.tmod b = a - b * a.tdiv b := Int.tmod_def a b
  have hr : -2147483648 ≤ a.tmod b ∧ a.tmod b < 2147483648 := by
    have h1 : (a.tmod b).natAbs ≤ a.natAbs := by
      rw [Int.natAbs_tmod]
      exact Nat.mod_le _ _
    by_cases h2 : a = -2147483648
    · have h3 : (a.tmod b).natAbs < b.natAbs := by
        rw [Int.natAbs_tmod]
        exact Nat.mod_lt _ (by omega)
      omega
    · omega
  have e3 : a - cm_wr (cm_wr (a.tdiv b) * b) = a.tmod b + (-(k1 * b) - k2) * 4294967296 := by
    rw [e2, e1, hd, Int.add_mul, Int.sub_mul, Int.neg_mul, Int.mul_assoc k1, Int.mul_comm 4294967296 b, ← Int.mul_assoc k1, Int.mul_comm b]
    omega
  rw [e3]
  have : cm_wr (a.tmod b + (-(k1 * b) - k2) * 4294967296) = a.tmod b := by
    generalize -(k1 * b) - k2 = k
    unfold cm_wr
    omega
  exact this
theorem cm_toI (x : Int32) : Int32.ofInt x.toInt = x := Int32.ofInt_toInt x
theorem cm_ieq (x y : Int32) : x = y ↔ x.toInt = y.toInt := Int32.toInt_inj.symm
theorem cm_i64 (x : Int32) : x.toInt64 = Int64.ofInt x.toInt := by
  rw [← Int64.toInt_inj, Int32.toInt_toInt64, Int64.toInt_ofInt_of_le] <;> have := cm_rng x <;> omega
