/-! what a step that goes on must have met -/
theorem iv_ild {ls : cm_L} {i : Nat} {k : cm_V → cm_R} {q} (h : cm_ild ls i k = some q) : ∃ x, ls[i]? = some (some (.inl x)) ∧ k (.inl x) = some q := by
  unfold cm_ild at h
  split at h
  · rename_i x e; exact ⟨x, e, h⟩
  · cases h
theorem iv_lld {ls : cm_L} {i : Nat} {k : cm_V → cm_R} {q} (h : cm_lld ls i k = some q) : ∃ x, ls[i]? = some (some (.inr (.inl x))) ∧ k (.inr (.inl x)) = some q := by
  unfold cm_lld at h
  split at h
  · rename_i x e; exact ⟨x, e, h⟩
  · cases h
theorem iv_ald {ls : cm_L} {i : Nat} {k : cm_V → cm_R} {q} (h : cm_ald ls i k = some q) : ∃ x, ls[i]? = some (some (.inr (.inr x))) ∧ k (.inr (.inr x)) = some q := by
  unfold cm_ald at h
  split at h
  · rename_i x e; exact ⟨x, e, h⟩
  · cases h
theorem iv_ist {ls : cm_L} {i : Nat} {st : List cm_V} {k : cm_L → List cm_V → cm_R} {q} (h : cm_ist ls i st k = some q) : ∃ x st1, st = .inl x :: st1 ∧ i < ls.length ∧ k ((cm_kl ls i).set i (some (.inl x))) st1 = some q := by
  unfold cm_ist at h
  split at h
  · rename_i x st1
    split at h
    · rename_i hl; exact ⟨x, st1, rfl, hl, h⟩
    · cases h
  · cases h
theorem iv_ast {ls : cm_L} {i : Nat} {st : List cm_V} {k : cm_L → List cm_V → cm_R} {q} (h : cm_ast ls i st k = some q) : ∃ x st1, st = .inr (.inr x) :: st1 ∧ i < ls.length ∧ k ((cm_kl ls i).set i (some (.inr (.inr x)))) st1 = some q := by
  unfold cm_ast at h
  split at h
  · rename_i x st1
    split at h
    · rename_i hl; exact ⟨x, st1, rfl, hl, h⟩
    · cases h
  · cases h
theorem iv_lst {ls : cm_L} {i : Nat} {st : List cm_V} {k : cm_L → List cm_V → cm_R} {q} (h : cm_lst ls i st k = some q) : ∃ x st1, st = .inr (.inl x) :: st1 ∧ i + 1 < ls.length ∧ k (((cm_kl ls i).set i (some (.inr (.inl x)))).set (i + 1) none) st1 = some q := by
  unfold cm_lst at h
  split at h
  · rename_i x st1
    split at h
    · rename_i hl; exact ⟨x, st1, rfl, hl, h⟩
    · cases h
  · cases h
theorem iv_inc {ls : cm_L} {i : Nat} {n : Int} {k : cm_L → cm_R} {q} (h : cm_inc ls i n k = some q) : ∃ x, ls[i]? = some (some (.inl x)) ∧ k (ls.set i (some (.inl (cm_wr (x + n))))) = some q := by
  unfold cm_inc at h
  split at h
  · rename_i x e; exact ⟨x, e, h⟩
  · cases h
theorem iv_i2 {f : Int → Int → Int} {st : List cm_V} {k : List cm_V → cm_R} {q} (h : cm_i2 f st k = some q) : ∃ a b st1, st = .inl b :: .inl a :: st1 ∧ k (.inl (f a b) :: st1) = some q := by
  unfold cm_i2 at h
  split at h
  · rename_i b a st1; exact ⟨a, b, st1, rfl, h⟩
  · cases h
theorem iv_l2 {f : Int64 → Int64 → Int64} {st : List cm_V} {k : List cm_V → cm_R} {q} (h : cm_l2 f st k = some q) : ∃ a b st1, st = .inr (.inl b) :: .inr (.inl a) :: st1 ∧ k (.inr (.inl (f a b)) :: st1) = some q := by
  unfold cm_l2 at h
  split at h
  · rename_i b a st1; exact ⟨a, b, st1, rfl, h⟩
  · cases h
theorem iv_ck {p : Prop} [Decidable p] {r : cm_R} {q} (h : cm_ck p r = some q) : p ∧ r = some q := by
  unfold cm_ck at h
  split at h
  · rename_i hp; exact ⟨hp, h⟩
  · cases h
theorem iv_dv {st : List cm_V} {k : List cm_V → cm_R} {q} (h : cm_dv st k = some q) : ∃ a b st1, st = .inl b :: .inl a :: st1 ∧ b ≠ 0 ∧ k (.inl (cm_wr (a.tdiv b)) :: st1) = some q := by
  unfold cm_dv at h
  split at h
  · rename_i b a st1; obtain ⟨h1, h2⟩ := iv_ck h; exact ⟨a, b, st1, rfl, h1, h2⟩
  · cases h
theorem iv_rm {st : List cm_V} {k : List cm_V → cm_R} {q} (h : cm_rm st k = some q) : ∃ a b st1, st = .inl b :: .inl a :: st1 ∧ b ≠ 0 ∧ k (.inl (a.tmod b) :: st1) = some q := by
  unfold cm_rm at h
  split at h
  · rename_i b a st1; obtain ⟨h1, h2⟩ := iv_ck h; exact ⟨a, b, st1, rfl, h1, h2⟩
  · cases h
theorem iv_ldv {st : List cm_V} {k : List cm_V → cm_R} {q} (h : cm_ldv st k = some q) : ∃ a b st1, st = .inr (.inl b) :: .inr (.inl a) :: st1 ∧ b ≠ 0 ∧ k (.inr (.inl (a / b)) :: st1) = some q := by
  unfold cm_ldv at h
  split at h
  · rename_i b a st1; obtain ⟨h1, h2⟩ := iv_ck h; exact ⟨a, b, st1, rfl, h1, h2⟩
  · cases h
theorem iv_lcm {st : List cm_V} {k : List cm_V → cm_R} {q} (h : cm_lcm st k = some q) : ∃ a b st1, st = .inr (.inl b) :: .inr (.inl a) :: st1 ∧ k (.inl (cm_lc a b) :: st1) = some q := by
  unfold cm_lcm at h
  split at h
  · rename_i b a st1; exact ⟨a, b, st1, rfl, h⟩
  · cases h
theorem iv_i2l {st : List cm_V} {k : List cm_V → cm_R} {q} (h : cm_i2l st k = some q) : ∃ a st1, st = .inl a :: st1 ∧ k (.inr (.inl (Int64.ofInt a)) :: st1) = some q := by
  unfold cm_i2l at h
  split at h
  · rename_i a st1; exact ⟨a, st1, rfl, h⟩
  · cases h
theorem iv_dup {st : List cm_V} {k : List cm_V → cm_R} {q} (h : cm_dup st k = some q) : ∃ a st1, st = a :: st1 ∧ cm_cat a = 1 ∧ k (a :: a :: st1) = some q := by
  unfold cm_dup at h
  split at h
  · rename_i a st1; exact ⟨_, st1, rfl, rfl, h⟩
  · rename_i a st1; exact ⟨_, st1, rfl, rfl, h⟩
  · cases h
theorem iv_pop {st : List cm_V} {k : List cm_V → cm_R} {q} (h : cm_pop st k = some q) : ∃ a st1, st = a :: st1 ∧ cm_cat a = 1 ∧ k st1 = some q := by
  unfold cm_pop at h
  split at h
  · rename_i a st1; exact ⟨_, st1, rfl, rfl, h⟩
  · rename_i a st1; exact ⟨_, st1, rfl, rfl, h⟩
  · cases h
theorem iv_dp2 {st : List cm_V} {k : List cm_V → cm_R} {q} (h : cm_dp2 st k = some q) : ∃ a b st1, st = b :: a :: st1 ∧ cm_cat a = 1 ∧ cm_cat b = 1 ∧ k (b :: a :: b :: a :: st1) = some q := by
  unfold cm_dp2 at h
  split at h
  · rename_i b a st1; exact ⟨_, _, st1, rfl, rfl, rfl, h⟩
  · cases h
theorem iv_if1 {c : ClassFile.Cond} {st : List cm_V} {t e : List cm_V → cm_R} {q} (h : cm_if1 c st t e = some q) : ∃ a st1, st = .inl a :: st1 ∧ ((cm_tst c a 0 ∧ t st1 = some q) ∨ (¬ cm_tst c a 0 ∧ e st1 = some q)) := by
  unfold cm_if1 at h
  split at h
  · rename_i a st1; exact ⟨a, st1, rfl, cm_br_inv h⟩
  · cases h
theorem iv_if2 {c : ClassFile.Cond} {st : List cm_V} {t e : List cm_V → cm_R} {q} (h : cm_if2 c st t e = some q) : ∃ a b st1, st = .inl b :: .inl a :: st1 ∧ ((cm_tst c a b ∧ t st1 = some q) ∨ (¬ cm_tst c a b ∧ e st1 = some q)) := by
  unfold cm_if2 at h
  split at h
  · rename_i b a st1; exact ⟨a, b, st1, rfl, cm_br_inv h⟩
  · cases h
theorem iv_gf {h0 : cm_H} {t ci f : Nat} {st : List cm_V} {k : List cm_V → cm_R} {q} (h : cm_gf h0 t ci f st k = some q) : ∃ a st1, st = .inr (.inr a) :: st1 ∧ cm_kd h0 a 0 ci = true ∧ ((t ≠ 2 ∧ k (.inl (h0.2.2.1 a (f : Int)) :: st1) = some q) ∨ (t = 2 ∧ h0.2.1 a (f : Int) < 300000 ∧ k (.inr (.inr (h0.2.1 a (f : Int))) :: st1) = some q)) := by
  unfold cm_gf at h
  split at h
  · rename_i a st1
    split at h
    · rename_i hk
      refine ⟨a, st1, rfl, hk, ?_⟩
      split at h
      · split at h
        · rename_i hb; exact Or.inr ⟨rfl, of_decide_eq_true (by simpa using hb), h⟩
        · cases h
      · rename_i hne; exact Or.inl ⟨fun e => hne e, h⟩
    · cases h
  · cases h
theorem iv_pf {h0 : cm_H} {t ci f : Nat} {st : List cm_V} {k : List cm_V → cm_H → cm_R} {q} (h : cm_pf h0 t ci f st k = some q) : ∃ v a st1 h1, st = v :: .inr (.inr a) :: st1 ∧ cm_kd h0 a 0 ci = true ∧ ((∃ x, v = .inl x ∧ (t = 0 ∨ (t = 1 ∧ (x = 0 ∨ x = 1))) ∧ h1 = cm_sI h0 a (f : Int) x) ∨ (∃ n, v = .inr (.inr n) ∧ t = 2 ∧ n < h0.2.2.2.2.1 ∧ h1 = cm_sR h0 a (f : Int) n)) ∧ k st1 h1 = some q := by
  unfold cm_pf at h
  split at h
  · rename_i v a st1
    split at h
    · rename_i hk
      split at h
      · exact ⟨_, a, st1, _, rfl, hk, Or.inl ⟨v, rfl, Or.inl rfl, rfl⟩, h⟩
      · obtain ⟨h1, h2⟩ := iv_ck h
        exact ⟨_, a, st1, _, rfl, hk, Or.inl ⟨v, rfl, Or.inr ⟨rfl, h1⟩, rfl⟩, h2⟩
      · cases h
    · cases h
  · rename_i v a st1
    split at h
    · rename_i hk
      split at h
      · split at h
        · rename_i hb; exact ⟨_, a, st1, _, rfl, hk, Or.inr ⟨v, rfl, rfl, of_decide_eq_true (by simpa using hb), rfl⟩, h⟩
        · cases h
      · cases h
    · cases h
  · cases h
theorem iv_kp {h0 : cm_H} {a t : Nat} (h : ((h0.1 a).1 == t) = true) : h0.1 a = (t, (h0.1 a).2) := Prod.ext (by simpa using h) rfl
theorem iv_al {h0 : cm_H} {t : Nat} {st : List cm_V} {k : List cm_V → cm_R} {q} (h : cm_al h0 t st k = some q) : ∃ a i st1, st = .inl i :: .inr (.inr a) :: st1 ∧ h0.1 a = (t, (h0.1 a).2) ∧ (0 ≤ i ∧ i < ((h0.1 a).2 : Int)) ∧ k (.inl (h0.2.2.1 a i) :: st1) = some q := by
  unfold cm_al at h
  split at h
  · rename_i i a st1
    split at h
    · rename_i hk
      obtain ⟨h1, h2⟩ := iv_ck h
      exact ⟨a, i, st1, rfl, iv_kp hk, h1, h2⟩
    · cases h
  · cases h
theorem iv_as1 {h0 : cm_H} {st : List cm_V} {k : List cm_V → cm_H → cm_R} {q} (h : cm_as h0 1 st k = some q) : ∃ a i v st1, st = .inl v :: .inl i :: .inr (.inr a) :: st1 ∧ h0.1 a = (1, (h0.1 a).2) ∧ a < h0.2.2.2.2.1 ∧ (0 ≤ i ∧ i < ((h0.1 a).2 : Int)) ∧ k st1 (cm_sI h0 a i (v)) = some q := by
  rcases st with _ | ⟨v | v | v, _ | ⟨i | i | i, _ | ⟨a | a | a, st1⟩⟩⟩
  all_goals first | (exfalso; cases h; done) | skip
  have h : (match (h0.1 a).1 == 1 && a.blt h0.2.2.2.2.1 with
    | true => cm_ck (0 ≤ i ∧ i < ((h0.1 a).2 : Int)) (k st1 (cm_sI h0 a i (v)))
    | false => none) = some q := h
  cases hk : ((h0.1 a).1 == 1 && a.blt h0.2.2.2.2.1) with
  | false => rw [hk] at h; cases h
  | true =>
    rw [hk] at h
    obtain ⟨h1, h2⟩ := iv_ck h
    simp only [Bool.and_eq_true] at hk
    exact ⟨a, i, v, st1, rfl, iv_kp hk.1, of_decide_eq_true (by simpa using hk.2), h1, h2⟩
theorem iv_as2 {h0 : cm_H} {st : List cm_V} {k : List cm_V → cm_H → cm_R} {q} (h : cm_as h0 2 st k = some q) : ∃ a i v st1, st = .inl v :: .inl i :: .inr (.inr a) :: st1 ∧ h0.1 a = (2, (h0.1 a).2) ∧ a < h0.2.2.2.2.1 ∧ (0 ≤ i ∧ i < ((h0.1 a).2 : Int)) ∧ k st1 (cm_sI h0 a i (v % 2)) = some q := by
  rcases st with _ | ⟨v | v | v, _ | ⟨i | i | i, _ | ⟨a | a | a, st1⟩⟩⟩
  all_goals first | (exfalso; cases h; done) | skip
  have h : (match (h0.1 a).1 == 2 && a.blt h0.2.2.2.2.1 with
    | true => cm_ck (0 ≤ i ∧ i < ((h0.1 a).2 : Int)) (k st1 (cm_sI h0 a i (v % 2)))
    | false => none) = some q := h
  cases hk : ((h0.1 a).1 == 2 && a.blt h0.2.2.2.2.1) with
  | false => rw [hk] at h; cases h
  | true =>
    rw [hk] at h
    obtain ⟨h1, h2⟩ := iv_ck h
    simp only [Bool.and_eq_true] at hk
    exact ⟨a, i, v, st1, rfl, iv_kp hk.1, of_decide_eq_true (by simpa using hk.2), h1, h2⟩
theorem iv_jl {h0 : cm_H} {st : List cm_V} {k : List cm_V → cm_R} {q} (h : cm_jl h0 st k = some q) : ∃ a i st1, st = .inl i :: .inr (.inr a) :: st1 ∧ h0.1 a = (3, (h0.1 a).2) ∧ (0 ≤ i ∧ i < ((h0.1 a).2 : Int)) ∧ k (.inr (.inl (h0.2.2.2.1 a i)) :: st1) = some q := by
  unfold cm_jl at h
  split at h
  · rename_i i a st1
    split at h
    · rename_i hk
      obtain ⟨h1, h2⟩ := iv_ck h
      exact ⟨a, i, st1, rfl, iv_kp hk, h1, h2⟩
    · cases h
  · cases h
theorem iv_js {h0 : cm_H} {st : List cm_V} {k : List cm_V → cm_H → cm_R} {q} (h : cm_js h0 st k = some q) : ∃ a i v st1, st = .inr (.inl v) :: .inl i :: .inr (.inr a) :: st1 ∧ h0.1 a = (3, (h0.1 a).2) ∧ (0 ≤ i ∧ i < ((h0.1 a).2 : Int)) ∧ k st1 (cm_sJ h0 a i v) = some q := by
  unfold cm_js at h
  split at h
  · rename_i v i a st1
    split at h
    · rename_i hk
      obtain ⟨h1, h2⟩ := iv_ck h
      exact ⟨a, i, v, st1, rfl, iv_kp hk, h1, h2⟩
    · cases h
  · cases h
theorem iv_rl {h0 : cm_H} {st : List cm_V} {k : List cm_V → cm_R} {q} (h : cm_rl h0 st k = some q) : ∃ a i st1, st = .inl i :: .inr (.inr a) :: st1 ∧ h0.1 a = (4, (h0.1 a).2) ∧ (0 ≤ i ∧ i < ((h0.1 a).2 : Int)) ∧ h0.2.1 a i < 300000 ∧ k (.inr (.inr (h0.2.1 a i)) :: st1) = some q := by
  unfold cm_rl at h
  split at h
  · rename_i i a st1
    split at h
    · rename_i hk
      obtain ⟨h1, h2⟩ := iv_ck h
      obtain ⟨h3, h4⟩ := iv_ck h2
      exact ⟨a, i, st1, rfl, iv_kp hk, h1, h3, h4⟩
    · cases h
  · cases h
theorem iv_rs {h0 : cm_H} {st : List cm_V} {k : List cm_V → cm_H → cm_R} {q} (h : cm_rs h0 st k = some q) : ∃ a i v st1, st = .inr (.inr v) :: .inl i :: .inr (.inr a) :: st1 ∧ h0.1 a = (4, (h0.1 a).2) ∧ h0.1 v = (0, 6) ∧ (0 ≤ i ∧ i < ((h0.1 a).2 : Int)) ∧ k st1 (cm_sR h0 a i v) = some q := by
  unfold cm_rs at h
  split at h
  · rename_i v i a st1
    split at h
    · rename_i hk
      obtain ⟨h1, h2⟩ := iv_ck h
      simp only [Bool.and_eq_true] at hk
      exact ⟨a, i, v, st1, rfl, iv_kp hk.1, cm_kdI hk.2, h1, h2⟩
    · cases h
  · cases h
theorem iv_ln {h0 : cm_H} {st : List cm_V} {k : List cm_V → cm_R} {q} (h : cm_ln h0 st k = some q) : ∃ a st1, st = .inr (.inr a) :: st1 ∧ h0.1 a = (1, (h0.1 a).2) ∧ k (.inl ((h0.1 a).2 : Int) :: st1) = some q := by
  unfold cm_ln at h
  split at h
  · rename_i a st1
    split at h
    · rename_i hk; exact ⟨a, st1, rfl, iv_kp hk, h⟩
    · cases h
  · cases h
theorem iv_na {h0 : cm_H} {t : Nat} {st : List cm_V} {k : List cm_V → cm_H → cm_R} {q} (h : cm_na h0 t st k = some q) : ∃ n st1, st = .inl n :: st1 ∧ h0.2.2.2.2.1 = h0.2.2.2.2.2.1 ∧ h0.2.2.2.2.1 < 99999 ∧ (0 ≤ n ∧ n ≤ 100000) ∧ k (.inr (.inr h0.2.2.2.2.1) :: st1) (cm_mk h0 (t, n.toNat) n.toNat) = some q := by
  unfold cm_na at h
  split at h
  · rename_i n st1
    split at h
    · rename_i hk
      obtain ⟨h1, h2⟩ := iv_ck h
      simp only [Bool.and_eq_true, beq_iff_eq] at hk
      exact ⟨n, st1, rfl, hk.1, of_decide_eq_true (by simpa using hk.2), h1, h2⟩
    · cases h
  · cases h
theorem iv_nw {h0 : cm_H} {ci n : Nat} {st : List cm_V} {k : List cm_V → cm_H → cm_R} {q} (h : cm_nw h0 ci n st k = some q) : h0.2.2.2.2.1 = h0.2.2.2.2.2.1 ∧ h0.2.2.2.2.1 < 99999 ∧ k (.inr (.inr h0.2.2.2.2.1) :: st) (cm_mk h0 (0, ci) n) = some q := by
  unfold cm_nw at h
  split at h
  · rename_i hk
    simp only [Bool.and_eq_true, beq_iff_eq] at hk
    exact ⟨hk.1, of_decide_eq_true (by simpa using hk.2), h⟩
  · cases h
theorem iv_cpy {h0 : cm_H} {st : List cm_V} {k : List cm_V → cm_H → cm_R} {q} (h : cm_cpy h0 st k = some q) : ∃ n dp a sp b st1, st = .inl n :: .inl dp :: .inr (.inr a) :: .inl sp :: .inr (.inr b) :: st1 ∧ h0.1 a = (1, (h0.1 a).2) ∧ h0.1 b = (1, (h0.1 b).2) ∧ a < h0.2.2.2.2.1 ∧ b < h0.2.2.2.2.1 ∧ (0 ≤ n ∧ 0 ≤ dp ∧ 0 ≤ sp) ∧ sp + n ≤ ((h0.1 b).2 : Int) ∧ dp + n ≤ ((h0.1 a).2 : Int) ∧ k st1 (cm_sA h0 a (cm_cp (h0.2.2.1 b) (h0.2.2.1 a) sp dp n)) = some q := by
  unfold cm_cpy at h
  split at h
  · rename_i n dp a sp b st1
    split at h
    · rename_i hk
      obtain ⟨⟨h1, h2, h3⟩, h4⟩ := iv_ck h
      simp only [Bool.and_eq_true] at hk
      exact ⟨n, dp, a, sp, b, st1, rfl, iv_kp hk.1, iv_kp hk.2.1, of_decide_eq_true (by simpa using hk.2.2.1), of_decide_eq_true (by simpa using hk.2.2.2), h1, h2, h3, h4⟩
    · cases h
  · cases h
theorem iv_ab {st : List cm_V} {k : List cm_V → cm_R} {q} (h : cm_ab st k = some q) : ∃ a st1, st = .inl a :: st1 ∧ k (.inl (if 0 ≤ a then a else cm_wr (0 - a)) :: st1) = some q := by
  unfold cm_ab at h
  split at h
  · rename_i a st1; exact ⟨a, st1, rfl, h⟩
  · cases h
theorem iv_oi {st : List cm_V} {k : List cm_V → cm_R} {q} (h : cm_oi st k = some q) : ∃ a st1, st = .inr (.inr a) :: st1 ∧ k st1 = some q := by
  unfold cm_oi at h
  split at h
  · rename_i a st1; exact ⟨a, st1, rfl, h⟩
  · cases h
theorem iv_sln {st : List cm_V} {k : List cm_V → cm_R} {q} (h : cm_sln st k = some q) : ∃ a st1, st = .inr (.inr a) :: st1 ∧ 200000 ≤ a ∧ a < 200003 ∧ k (.inl ((cm_tx (a - 200000)).length : Int) :: st1) = some q := by
  unfold cm_sln at h
  split at h
  · rename_i a st1
    split at h
    · rename_i hk
      simp only [Bool.and_eq_true] at hk
      exact ⟨a, st1, rfl, Nat.le_of_ble_eq_true hk.1, of_decide_eq_true (by simpa using hk.2), h⟩
    · cases h
  · cases h
theorem iv_sch {st : List cm_V} {k : List cm_V → cm_R} {q} (h : cm_sch st k = some q) : ∃ a i st1, st = .inl i :: .inr (.inr a) :: st1 ∧ 200000 ≤ a ∧ a < 200003 ∧ (0 ≤ i ∧ i < ((cm_tx (a - 200000)).length : Int)) ∧ k (.inl ((cm_tx (a - 200000)).getD i.toNat 0) :: st1) = some q := by
  unfold cm_sch at h
  split at h
  · rename_i i a st1
    split at h
    · rename_i hk
      obtain ⟨h1, h2⟩ := iv_ck h
      simp only [Bool.and_eq_true] at hk
      exact ⟨a, i, st1, rfl, Nat.le_of_ble_eq_true hk.1, of_decide_eq_true (by simpa using hk.2), h1, h2⟩
    · cases h
  · cases h
theorem iv_fd {pc : Nat} {en : cm_E} : ∀ {l : List (Nat × cm_E)}, cm_fd l pc = some en → (pc, en) ∈ l := by
  intro l
  induction l with
  | nil => intro h; cases h
  | cons q l ih =>
    intro h
    obtain ⟨p0, e0⟩ := q
    unfold cm_fd at h
    split at h
    · rename_i e1; cases h; rw [e1]; exact List.mem_cons_self
    · exact List.mem_cons_of_mem _ (ih h)
theorem iv_own {k : cm_K} {y pc l b c : Nat} {ls : cm_L} {st : List cm_V} {h : cm_H} {q} (hh : cm_own k y pc l b c ls st h = some q) : ∃ as_ rest r1 h1, st = as_.reverse ++ rest ∧ as_.length = c ∧ cm_wd rest ≤ 8 ∧ cm_wd as_.reverse ≤ c ∧ k b 0 (cm_en as_ (cm_mL b)) [] h = some (r1, h1) ∧ ((r1 = .inl none ∧ k y (pc + l) ls rest h1 = some q) ∨ (∃ v, r1 = .inl (some v) ∧ k y (pc + l) ls (v :: rest) h1 = some q) ∨ (∃ x, r1 = .inr x ∧ ((cm_hn (cm_hs y) pc x = none ∧ q = (.inr x, h1)) ∨ ∃ t, cm_hn (cm_hs y) pc x = some t ∧ k y t ls [.inr (.inr 300000)] h1 = some q))) := by
  unfold cm_own at hh
  split at hh
  · rename_i hk
    simp only [Bool.and_eq_true, Nat.ble_eq] at hk
    cases e1 : k b 0 (cm_en (st.take c).reverse (cm_mL b)) [] h with
    | none => rw [e1] at hh; cases hh
    | some z =>
      obtain ⟨r1, h1⟩ := z
      rw [e1] at hh
      refine ⟨(st.take c).reverse, st.drop c, r1, h1, by rw [List.reverse_reverse, List.take_append_drop], by rw [List.length_reverse, List.length_take]; omega, hk.2.1, by rw [List.reverse_reverse]; exact hk.2.2, e1, ?_⟩
      rcases r1 with (_ | v) | x
      · exact Or.inl ⟨rfl, hh⟩
      · exact Or.inr (Or.inl ⟨v, rfl, hh⟩)
      · refine Or.inr (Or.inr ⟨x, rfl, ?_⟩)
        have hh : (match cm_hn (cm_hs y) pc x with
          | none => some (.inr x, h1)
          | some t => k y t ls [.inr (.inr 300000)] h1) = some q := hh
        cases e2 : cm_hn (cm_hs y) pc x with
        | none => rw [e2] at hh; exact Or.inl ⟨rfl, (Option.some.inj hh).symm⟩
        | some t => rw [e2] at hh; exact Or.inr ⟨t, rfl, hh⟩
  · cases hh
theorem iv_rc {h : cm_H} {ci n : Nat} {as_ rest : List cm_V} (hn : as_.length = n) (h0 : 0 < n) (hh : cm_rc h ci ((as_.reverse ++ rest).drop (n - 1)) = true) : ∃ q as1, as_ = .inr (.inr q) :: as1 ∧ cm_kd h q 0 ci = true := by
  cases as_ with
  | nil => simp at hn; omega
  | cons a as1 =>
    simp only [List.length_cons] at hn
    have e1 : ((a :: as1).reverse ++ rest).drop (n - 1) = a :: rest := by
      have : (n - 1) = as1.reverse.length := by simp; omega
      rw [List.reverse_cons, List.append_assoc, this, List.drop_left]
      rfl
    rw [e1] at hh
    unfold cm_rc at hh
    split at hh
    · rename_i q _ e2
      cases e2
      exact ⟨_, as1, rfl, hh⟩
    · cases hh
