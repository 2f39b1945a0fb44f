/-! what the contents of a writing tell: class and reference -/
variable {D E : Nat → Int → Int} {X : cm_X} {S : Nat → Int → Int} {L : List CT} {r f a b : Int → Int} {q : Int}
theorem plc_s {t : Nat} {x : CT} {d : Int} (hm : mHol E L) (hx : L[t]? = some x) (hu : ∀ (t' : Nat) (y : CT), L[t']? = some y → y.1 = x.1 → whs y = whs x → t' = t) : plc E x.1 (whs x) d = E 624 t := by
  have hl := get_lt hx
  obtain ⟨m1, m2⟩ := hm
  unfold plc
  rw [m1]
  rcases fnd_spec (p := fun j => decide (E 622 j = x.1 ∧ E 623 j = whs x)) (d := -1) (k := ((L.length : Nat) : Int).toNat) (i := 0) with ⟨j, a, b, c, e, -⟩ | ⟨e, h⟩
  · rw [e]
    have hj : j.toNat < L.length := by omega
    have hg : L[j.toNat]? = some L[j.toNat] := List.getElem?_eq_getElem hj
    obtain ⟨k1, k2⟩ := m2 _ _ hg
    have ej : ((j.toNat : Nat) : Int) = j := by omega
    rw [ej] at k1 k2
    have cc := of_decide_eq_true c
    have := hu _ _ hg (k1.symm.trans cc.1) (k2.symm.trans cc.2)
    have e2 : j = (t : Int) := by omega
    dsimp only
    rw [if_neg (by omega), e2]
  · have := h t (by omega) (by omega)
    have hf := of_decide_eq_false this
    exact absurd (m2 t x hx) hf
theorem plc_z {k w d : Int} (hm : mHol E L) (hu : ∀ (t : Nat) (y : CT), L[t]? = some y → ¬ (y.1 = k ∧ whs y = w)) : plc E k w d = d := by
  obtain ⟨m1, m2⟩ := hm
  unfold plc
  rw [m1]
  rcases fnd_spec (p := fun j => decide (E 622 j = k ∧ E 623 j = w)) (d := -1) (k := ((L.length : Nat) : Int).toNat) (i := 0) with ⟨j, a, b, c, e, -⟩ | ⟨e, h⟩
  · have hj : j.toNat < L.length := by omega
    have hg : L[j.toNat]? = some L[j.toNat] := List.getElem?_eq_getElem hj
    obtain ⟨k1, k2⟩ := m2 _ _ hg
    have ej : ((j.toNat : Nat) : Int) = j := by omega
    rw [ej] at k1 k2
    have cc := of_decide_eq_true c
    exact absurd ⟨k1.symm.trans cc.1, k2.symm.trans cc.2⟩ (hu _ _ hg)
  · rw [e]
    dsimp only
    rw [if_pos rfl]
theorem plc_3 {t : Nat} {n c d : Int} (hg : gL S L) (hn : nS S) (hm : mHol E L) (hx : L[t]? = some (3, n, c)) : plc E 3 (8 * n + c) d = E 624 t := by
  have w := ct_3 hg hx hn
  refine plc_s (x := (3, n, c)) hm hx fun t' y hy h1 h2 => ?_
  obtain ⟨y1, y2, y3⟩ := y
  dsimp only at h1
  rw [h1] at hy h2
  have w' := ct_3 hg hy hn
  rw [whs3, whs3] at h2
  have e1 : y2 = n := by omega
  have e2 : y3 = c := by omega
  rw [e1, e2] at hy
  exact hg.1 _ _ _ hy hx (by show ¬ (3 : Int) = 2; omega)
theorem plc_4 {t : Nat} {n c d : Int} (hg : gL S L) (hm : mHol E L) (hx : L[t]? = some (4, n, c)) : plc E 4 n d = E 624 t := by
  have w := ct_4 hg hx
  refine plc_s (x := (4, n, c)) hm hx fun t' y hy h1 h2 => ?_
  obtain ⟨y1, y2, y3⟩ := y
  dsimp only at h1
  rw [h1] at hy h2
  have w' := ct_4 hg hy
  rw [whs4, whs4] at h2
  rw [h2, w'.1] at hy
  have hx' : L[t]? = some (4, n, -1) := by rw [hx, w.1]
  exact hg.1 _ _ _ hy hx' (by show ¬ (4 : Int) = 2; omega)
theorem plc_5 {t : Nat} {n c d : Int} (hg : gL S L) (hm : mHol E L) (hx : L[t]? = some (5, n, c)) : plc E 5 0 d = E 624 t := by
  have w := ct_5 hg hx
  refine plc_s (x := (5, n, c)) hm hx fun t' y hy h1 h2 => ?_
  obtain ⟨y1, y2, y3⟩ := y
  dsimp only at h1
  rw [h1] at hy
  have w' := ct_5 hg hy
  rw [w'.1, w'.2.1] at hy
  have hx' : L[t]? = some (5, -1, -1) := by rw [hx, w.1, w.2.1]
  exact hg.1 _ _ _ hy hx' (by show ¬ (5 : Int) = 2; omega)
/-- the reference's numbers of what is in mind, but for head and spared -/
def rQ (S : Nat → Int → Int) (g : Int → Int) : Prop := ∃ r, rS S r ∧ ∀ j, 0 ≤ j → j < 244 → g j = r j
theorem bod_3 (hg : gL S L) (hn : nS S) (hm : mHol E L) (hr : rQ S (E 617))  {t : Nat} {n c : Int} (hx : L[t]? = some (3, n, c)) : bodM E t 0 = S 5 (n * 8 + c) := by
  have w := ct_3 hg hx hn
  obtain ⟨r, r1, r2⟩ := hr
  obtain ⟨m1, m2⟩ := hm.2 t _ hx
  rw [whs3] at m2
  dsimp only at m1
  unfold bodM
  rw [if_pos m1, if_pos rfl, m2, r2 _ (by omega) (by omega), show 132 + (8 * n + c) = 132 + 8 * n + c by omega]
  exact (r1.2.1 n c w.1.1.1 w.1.1.2 w.1.2.1.1 w.1.2.1.2).2
theorem bod_4l (hg : gL S L) (hn : nS S) (hm : mHol E L) (hr : rQ S (E 617))  {t : Nat} {n d : Int} (hx : L[t]? = some (4, n, d)) : bodM E t 8 = S 2 n := by
  have w := ct_4 hg hx
  obtain ⟨r, r1, r2⟩ := hr
  obtain ⟨m1, m2⟩ := hm.2 t _ hx
  rw [whs4] at m2
  dsimp only at m1
  unfold bodM
  rw [if_neg (by omega), if_pos m1, if_pos rfl, m2, r2 _ (by omega) (by omega)]
  exact (r1.1 n w.2.1.1 w.2.1.2).2.1
theorem bod_4 (hg : gL S L) (hn : nS S) (hm : mHol E L) (hr : rQ S (E 617))  {t : Nat} {n d i : Int} (hx : L[t]? = some (4, n, d)) (i0 : 0 ≤ i) (i1 : i < S 2 n) : (S 4 (n * 8 + i) ≠ -1 ∧ bodM E t i = S 4 (n * 8 + i)) ∨ ∃ t' : Nat, t' < t ∧ L[t']? = some (3, n, i) ∧ bodM E t i = E 624 t' := by
  have w := ct_4 hg hx
  have hl := (hn.2.1 n w.2.1.1 w.2.1.2).2.1
  obtain ⟨r, r1, r2⟩ := hr
  obtain ⟨m1, m2⟩ := hm.2 t _ hx
  rw [whs4] at m2
  dsimp only at m1
  have e12 : E 617 (12 + n) = S 2 n := by rw [r2 _ (by omega) (by omega)]; exact (r1.1 n w.2.1.1 w.2.1.2).2.1
  have e36 : E 617 (36 + 8 * n + i) = S 4 (n * 8 + i) := by rw [r2 _ (by omega) (by omega)]; exact (r1.2.1 n i w.2.1.1 w.2.1.2 i0 i1).1
  have e : bodM E t i = bod4 E n i := by
    unfold bodM
    rw [if_neg (by omega), if_pos m1, if_neg (by omega), m2, e12, if_pos i1]
  rw [e]
  unfold bod4
  rw [e36]
  by_cases hq : S 4 (n * 8 + i) = -1
  · obtain ⟨t', h1, h2⟩ := hg.2.1 t n d hx i i0 i1 hq
    refine Or.inr ⟨t', h1, h2, ?_⟩
    rw [if_pos hq]
    exact plc_3 hg hn hm h2
  · refine Or.inl ⟨hq, ?_⟩
    rw [if_neg hq]
theorem bod_5 (hg : gL S L) (hn : nS S) (hm : mHol E L) (hr : rQ S (E 617))  {t : Nat} {n d i : Int} (hx : L[t]? = some (5, n, d)) (i0 : 0 ≤ i) (i1 : i < 12) : bodM E t i = if S 1 i = 0 then -1 else S 1 i := by
  obtain ⟨r, r1, r2⟩ := hr
  obtain ⟨m1, m2⟩ := hm.2 t _ hx
  dsimp only at m1
  unfold bodM
  rw [if_neg (by omega), if_neg (by omega), if_pos m1, if_pos i1, r2 _ i0 (by omega)]
  exact (r1.1 i i0 i1).1
theorem bod_60 (hg : gL S L) (hn : nS S) (hm : mHol E L) (hr : rQ S (E 617))  {t : Nat} {n d : Int} (hx : L[t]? = some (6, n, d)) : (∃ (t' : Nat) (k c : Int), L[t']? = some (5, k, c) ∧ bodM E t 0 = E 624 t') ∨ (S 0 6 = 0 ∧ bodM E t 0 = S 6 0) := by
  obtain ⟨r, r1, r2⟩ := hr
  obtain ⟨m1, m2⟩ := hm.2 t _ hx
  dsimp only at m1
  have e : bodM E t 0 = plc E 5 0 (E 617 228) := by
    unfold bodM
    rw [if_neg (by omega), if_neg (by omega), if_neg (by omega), if_pos m1, if_pos rfl]
  rw [e]
  by_cases h6 : S 0 6 = 0
  · refine Or.inr ⟨h6, ?_⟩
    rw [plc_z hm fun t' y hy z => ?_, r2 _ (by omega) (by omega)]
    · exact r1.2.2.1 0 (by omega) (by omega)
    · obtain ⟨y1, y2, y3⟩ := y
      have z1 := z.1
      dsimp only at z1
      rw [z1] at hy
      exact (ct_5 hg hy).2.2 h6
  · obtain ⟨t', ht⟩ := List.getElem?_of_mem (hg.2.2.2.2.1 h6)
    exact Or.inl ⟨t', _, _, ht, plc_5 hg hm ht⟩
theorem mNm_s {g : Int → Int} {v : Int} : (mNm g v = -1 ∧ ∀ n, 0 ≤ n → n < 12 → g n ≠ v) ∨ ((0 ≤ mNm g v ∧ mNm g v < 12) ∧ g (mNm g v) = v) := by
  unfold mNm
  rcases fnd_spec (p := fun n => decide (g n = v)) (d := -1) (k := 12) (i := 0) with ⟨j, a, b, c, d, -⟩ | ⟨d, h⟩
  · rw [d]
    exact Or.inr ⟨⟨a, by omega⟩, of_decide_eq_true c⟩
  · rw [d]
    exact Or.inl ⟨rfl, fun n n0 n1 => of_decide_eq_false (h n n0 (by omega))⟩
theorem bod_6 (hg : gL S L) (hn : nS S) (hm : mHol E L) (hr : rQ S (E 617))  {t : Nat} {n d i : Int} (hx : L[t]? = some (6, n, d)) (i0 : 1 ≤ i) (i1 : i < 13) : (∃ (t' : Nat) (k c : Int), L[t']? = some (4, k, c) ∧ S 1 k = i ∧ bodM E t i = E 624 t') ∨ ((∀ k, 0 ≤ k → k < 12 → S 1 k = i → S 3 k = 0) ∧ bodM E t i = S 6 i) := by
  obtain ⟨r, r1, r2⟩ := hr
  obtain ⟨m1, m2⟩ := hm.2 t _ hx
  dsimp only at m1
  have e : bodM E t i = bod6 E i := by
    unfold bodM
    rw [if_neg (by omega), if_neg (by omega), if_neg (by omega), if_pos m1, if_neg (by omega), if_pos i1]
  have e228 : E 617 (228 + i) = S 6 i := by rw [r2 _ (by omega) (by omega)]; exact r1.2.2.1 i (by omega) i1
  have eN : mNm (E 617) i = mNm r i := mNm_c r2 i
  rw [e]
  unfold bod6
  rw [e228, eN]
  have hv : ∀ k, 0 ≤ k → k < 12 → (r k = i ↔ S 1 k = i) := fun k k0 k1 => by
    rw [(r1.1 k k0 k1).1]
    by_cases h0 : S 1 k = 0
    · rw [if_pos h0]; omega
    · rw [if_neg h0]
  rcases mNm_s (g := r) (v := i) with ⟨h1, h2⟩ | ⟨h1, h2⟩
  · rw [if_pos h1]
    exact Or.inr ⟨fun k k0 k1 z => absurd ((hv k k0 k1).mpr z) (h2 k k0 k1), rfl⟩
  · rw [if_neg (by omega)]
    have hk := (hv _ h1.1 h1.2).mp h2
    by_cases h3 : S 3 (mNm r i) = 0
    · refine Or.inr ⟨fun k k0 k1 z => ?_, plc_z hm fun t' y hy z => ?_⟩
      · have := hn.2.2 k (mNm r i) k0 k1 h1.1 h1.2 (by omega) (by omega)
        rw [this]; exact h3
      · obtain ⟨y1, y2, y3⟩ := y
        obtain ⟨z1, z2⟩ := z
        dsimp only at z1
        rw [z1] at hy z2
        rw [whs4] at z2
        rw [z2] at hy
        exact (ct_4 hg hy).2.2.2 h3
    · obtain ⟨t', ht⟩ := List.getElem?_of_mem (hg.2.2.2.1 _ h1.1 h1.2 h3)
      exact Or.inl ⟨t', _, _, ht, hk, plc_4 hg hm ht⟩
theorem bod_67 (hg : gL S L) (hn : nS S) (hm : mHol E L) (hr : rQ S (E 617))  {t : Nat} {n d : Int} (hx : L[t]? = some (6, n, d)) : bodM E t 13 = S 0 7 ∧ bodM E t 14 = S 0 8 := by
  obtain ⟨r, r1, r2⟩ := hr
  obtain ⟨m1, m2⟩ := hm.2 t _ hx
  dsimp only at m1
  unfold bodM
  rw [if_neg (by omega), if_neg (by omega), if_neg (by omega), if_pos m1, if_neg (by omega), if_neg (by omega), if_pos rfl, if_neg (by omega), if_neg (by omega), if_neg (by omega), if_pos m1, if_neg (by omega), if_neg (by omega), if_neg (by omega), r2 _ (by omega) (by omega), r2 _ (by omega) (by omega)]
  exact ⟨r1.2.2.2.2.1, r1.2.2.2.2.2.1⟩
/-- both tell the same -/
theorem bod_eq (hg : gL S L) (hn : nS S) (hm : mHol E L) (hr : rQ S (E 617))  (hc : cHol D L) (e1 : D 16 = S 1) (e2 : D 17 = S 2) (e5 : D 20 = S 5) (e7 : D 15 7 = S 0 7) (e8 : D 15 8 = S 0 8) (hp : plQ (S 1) (S 4) (S 6) L q (E 624) (D 19) (D 21)) {t : Nat} {x : CT} (hx : L[t]? = some x) (ht : (t : Int) < q) (hq : x.1 = 6 → (L.length : Int) ≤ q) {i : Int} (i0 : 0 ≤ i) (i1 : i < lnC D t) : bodM E t i = tlC D t i := by
  obtain ⟨p1, p2, p3, p4, p5⟩ := hp
  obtain ⟨k1, k2, k3⟩ := hc.2 t _ hx
  obtain ⟨x1, x2, x3⟩ := x
  dsimp only at k1 k2 k3 hq
  unfold lnC at i1
  unfold tlC
  rw [k1] at i1 ⊢
  rw [k2] at i1 ⊢
  rw [k3]
  by_cases h3 : x1 = 3
  · rw [if_pos h3] at i1 ⊢
    rw [h3] at hx
    rw [show i = 0 by omega, bod_3 hg hn hm hr hx, e5]
  · rw [if_neg h3] at i1 ⊢
    by_cases h4 : x1 = 4
    · rw [if_pos h4] at i1 ⊢
      rw [h4] at hx
      rw [e2] at i1
      rcases bod_4 hg hn hm hr hx i0 i1 with ⟨z1, z2⟩ | ⟨t', z1, z2, z3⟩
      · have w4 := ct_4 hg hx
        have l4 := (hn.2.1 _ w4.2.1.1 w4.2.1.2).2.1
        rw [z2, p2 _ (by omega) (by omega) fun t' n' c' y1 y2 y3 => z1 ?_]
        rw [y3]
        exact (ct_3 hg y2 hn).1.2.2.1
      · rw [z3, p1 t' _ _ (by omega) z2]
    · rw [if_neg h4] at i1 ⊢
      by_cases h5 : x1 = 5
      · rw [if_pos h5] at i1 ⊢
        rw [h5] at hx
        rw [bod_5 hg hn hm hr hx i0 i1, e1]
      · rw [if_neg h5] at i1 ⊢
        by_cases h6 : x1 = 6
        · rw [if_pos h6] at i1
          have hq := hq h6
          rw [h6] at hx
          have hlt : ∀ {t' : Nat} {y : CT}, L[t']? = some y → (t' : Int) < q := fun h => by
            have := get_lt h
            omega
          unfold mpT
          by_cases hi0 : i = 0
          · rw [if_pos (by omega), hi0]
            rcases bod_60 hg hn hm hr hx with ⟨t', k, c, z1, z2⟩ | ⟨z1, z2⟩
            · rw [z2, p4 t' k c (hlt z1) z1]
            · rw [z2, p5 0 (by omega) (by omega) (fun t' k d _ y => fun z => (ct_4 hg y).2.2.1 z.symm) (fun t' k d _ y => absurd z1 (ct_5 hg y).2.2)]
          · by_cases hi : i < 13
            · rw [if_pos hi]
              rcases bod_6 hg hn hm hr hx (by omega) hi with ⟨t', k, c, z1, z2, z3⟩ | ⟨z1, z2⟩
              · rw [z3, ← z2, p3 t' k c (hlt z1) z1]
              · rw [z2, p5 i (by omega) hi (fun t' k d _ y z => (ct_4 hg y).2.2.2 (z1 k (ct_4 hg y).2.1.1 (ct_4 hg y).2.1.2 z.symm)) (fun t' k d _ y => hi0)]
            · rw [if_neg hi]
              by_cases h13 : i = 13
              · rw [if_pos h13, h13, e7, (bod_67 hg hn hm hr hx).1]
              · rw [if_neg h13, e8, show i = 14 by omega, (bod_67 hg hn hm hr hx).2]
        · rw [if_neg h6] at i1
          omega
