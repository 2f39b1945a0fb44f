theorem cm_cat_ge (v : cm_V) : 1 ≤ cm_cat v := by
  rcases v with x | x | x <;> decide
theorem cm_wd_ge : ∀ as_ : List cm_V, as_.length ≤ cm_wd as_ := by
  intro as_
  induction as_ with
  | nil => exact Nat.le_refl _
  | cons a t ih =>
    have h1 := cm_cat_ge a
    have h2 : cm_wd (a :: t) = cm_cat a + cm_wd t := rfl
    rw [List.length_cons, h2]
    omega
theorem cm_wd_1 : ∀ as_ : List cm_V, cm_wd as_ ≤ as_.length → ∀ v ∈ as_, cm_cat v = 1 := by
  intro as_
  induction as_ with
  | nil => intro _ v hv; cases hv
  | cons a t ih =>
    intro h v hv
    have h1 := cm_cat_ge a
    have h2 : cm_wd (a :: t) = cm_cat a + cm_wd t := rfl
    have h3 := cm_wd_ge t
    rw [List.length_cons, h2] at h
    rcases List.mem_cons.mp hv with h4 | h4
    · subst h4; omega
    · exact ih (by omega) v h4
theorem cm_sl_len {Z : cm_Z} : ∀ {as_ : List cm_V} {vs : List Value}, cm_sr Z as_ vs → (∀ v ∈ as_, cm_cat v = 1) → (lg_sl vs).length = as_.length := by
  intro as_
  induction as_ with
  | nil => intro vs h _; rw [cm_sr_nil h]; rfl
  | cons a t ih =>
    intro vs h hc
    obtain ⟨v, r, rfl, hv, hs⟩ := cm_sr_cons h
    have h1 : v.category = 1 := (cm_cat_eq hv).trans (hc a List.mem_cons_self)
    have h2 : lg_sl (v :: r) = Slot.val v :: lg_sl r := by
      unfold lg_sl
      rw [List.flatMap_cons, if_neg (by omega)]
      rfl
    rw [h2, List.length_cons, List.length_cons, ih hs (fun w hw => hc w (List.mem_cons_of_mem _ hw))]
theorem cm_args_at {Z : cm_Z} : ∀ {as_ : List cm_V} {vs : List Value} (k : Nat), cm_sr Z as_ vs → (∀ v ∈ as_, cm_cat v = 1) → ∀ (j : Nat) (a : cm_V), as_[j]? = some a → ∃ v, (k + j, v) ∈ lv_args k vs ∧ cm_vr Z v a := by
  intro as_
  induction as_ with
  | nil => intro vs k h _ j a hj; cases hj
  | cons b t ih =>
    intro vs k h hc j a hj
    obtain ⟨v, r, rfl, hv, hs⟩ := cm_sr_cons h
    have h1 : v.category = 1 := (cm_cat_eq hv).trans (hc b List.mem_cons_self)
    have h2 : lv_args k (v :: r) = (k, v) :: lv_args (k + 1) r := by
      show (k, v) :: lv_args (if v.category = 2 then k + 2 else k + 1) r = _
      rw [if_neg (by omega)]
    rw [h2]
    rcases j with _ | j
    · cases hj
      exact ⟨v, List.mem_cons_self, hv⟩
    · obtain ⟨w, h3, h4⟩ := ih (k + 1) hs (fun w hw => hc w (List.mem_cons_of_mem _ hw)) j a hj
      refine ⟨w, List.mem_cons_of_mem _ ?_, h4⟩
      have e1 : k + (j + 1) = k + 1 + j := by omega
      rw [e1]
      exact h3
theorem cm_en_at {as_ : List cm_V} {n i : Nat} {a : cm_V} (h : (cm_en as_ n)[i]? = some (some a)) : as_[i]? = some a := by
  unfold cm_en at h
  by_cases hi : i < (as_.map some).length
  · rw [List.getElem?_append_left hi, List.getElem?_map] at h
    cases h1 : as_[i]? with
    | none => rw [h1] at h; cases h
    | some w => rw [h1] at h; cases h; rfl
  · rw [List.getElem?_append_right (by omega)] at h
    have h2 := List.mem_of_getElem? h
    rw [List.mem_replicate] at h2
    exact absurd h2.2 (by simp)
theorem cm_entry {Z : cm_Z} {as_ : List cm_V} {vs : List Value} {n : Nat} (hs : cm_sr Z as_ vs) (hc : ∀ v ∈ as_, cm_cat v = 1) (hn : as_.length ≤ n) : cm_lr Z (cm_en as_ n) ((lg_sl vs ++ List.replicate (n - (lg_sl vs).length) Slot.unset).toArray) := by
  refine ⟨lv_args 0 vs, by rw [cm_en_len as_ hn]; exact lv_entry vs (by rw [cm_sl_len hs hc]; exact hn), fun i a hi => ?_⟩
  obtain ⟨v, h1, h2⟩ := cm_args_at 0 hs hc i a (cm_en_at hi)
  rw [Nat.zero_add] at h1
  exact ⟨v, h1, h2⟩
theorem cm_vr_x {Z : cm_Z} {q : Nat} : cm_vr Z (.ref q) (.inr (.inr 300000)) := by
  show (if 300000 < 100000 then Value.ref q = .ref (zB Z + 300000) else if 300000 = 100000 then Value.ref q = .ref (zS Z) else if 300000 < 300000 then ∃ k, k < 6 ∧ k % 3 = 300000 - 200000 ∧ Value.ref q = .ref (zK Z k) else ∃ q', Value.ref q = .ref q')
  rw [if_neg (by omega), if_neg (by omega), if_neg (by omega)]
  exact ⟨q, rfl⟩
/-- the tables of handlers, of the two machines -/
def cm_hok (b : Nat) : Bool := match cm_hh b, cm_hs b with
  | [], [] => true
  | [(s, e, t, c)], [(s', e', t', x)] => s == s' && (e == e' && (t == t' && (((c == 18 && x == 0) || (c == 13 && x == 1)) && cm_ow b == 10)))
  | [(0, 12, 15, 18), (0, 12, 19, 13)], [(0, 12, 15, 0), (0, 12, 19, 1)] => cm_ow b == 10
  | _, _ => false
set_option maxRecDepth 100000 in
theorem cm_hok_d : ∀ b, b < 295 → cm_hok b = true := by decide +kernel
theorem cm_hok_inv {b : Nat} (hb : b < 295) : (cm_hh b = [] ∧ cm_hs b = []) ∨ (cm_ow b = 10 ∧ ((∃ s e t c x, cm_hh b = [(s, e, t, c)] ∧ cm_hs b = [(s, e, t, x)] ∧ ((c = 18 ∧ x = 0) ∨ (c = 13 ∧ x = 1))) ∨ (cm_hh b = [(0, 12, 15, 18), (0, 12, 19, 13)] ∧ cm_hs b = [(0, 12, 15, 0), (0, 12, 19, 1)]))) := by
  have h := cm_hok_d b hb
  unfold cm_hok at h
  split at h
  · rename_i h1 h2; exact Or.inl ⟨h1, h2⟩
  · rename_i s e t c s' e' t' x h1 h2
    simp only [Bool.and_eq_true, Bool.or_eq_true, beq_iff_eq] at h
    obtain ⟨rfl, rfl, rfl, h5, h6⟩ := h
    exact Or.inr ⟨h6, Or.inl ⟨_, _, _, _, _, h1, h2, h5⟩⟩
  · rename_i h1 h2
    exact Or.inr ⟨by simpa using h, Or.inr ⟨h1, h2⟩⟩
  · cases h
