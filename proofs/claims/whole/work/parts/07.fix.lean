/-- what a step can be, from a heap h0 on: an end, a step on, a call and a step on; no cell is unmade -/
def cm_hle (h h1 : cm_H) : Prop := h.2.2.2.2.2.1 ≤ h1.2.2.2.2.2.1 ∧ h.2.2.2.2.2.2 ≤ h1.2.2.2.2.2.2
theorem cm_hle.rf (h : cm_H) : cm_hle h h := ⟨Nat.le_refl _, Nat.le_refl _⟩
theorem cm_hle.tr {a b c : cm_H} (h : cm_hle a b) (h' : cm_hle b c) : cm_hle a c := ⟨Nat.le_trans h.1 h'.1, Nat.le_trans h.2 h'.2⟩
def cm_nf (h0 : cm_H) (F : cm_K → cm_R) : Prop := (∃ c, (∀ k, F k = c) ∧ ∀ r h1, c = some (r, h1) → cm_hle h0 h1) ∨ (∃ y pc ls st h, cm_hle h0 h ∧ ∀ k, F k = k y pc ls st h) ∨
  (∃ b as_ y pc0 pc ls st hs, ∀ k, F k = cm_bd (k b 0 as_ [] h0) (fun h => k y pc ls st h) (fun v h => k y pc ls (v :: st) h) (fun e h => match cm_hn hs pc0 e with
      | none => some (.inr e, h)
      | some t => k y t ls [.inr (.inr 300000)] h))
theorem cm_nf_ck {h0 : cm_H} {p : Prop} [Decidable p] {F : cm_K → cm_R} (h : cm_nf h0 F) : cm_nf h0 (fun k => cm_ck p (F k)) := by
  by_cases hp : p
  · have e : (fun k => cm_ck p (F k)) = F := by funext k; simp [cm_ck, hp]
    rw [e]; exact h
  · exact Or.inl ⟨none, fun k => by simp [cm_ck, hp], fun _ _ h => by cases h⟩
theorem cm_nf_ite {h0 : cm_H} {p : Prop} [Decidable p] {F G : cm_K → cm_R} (h : cm_nf h0 F) (h' : cm_nf h0 G) : cm_nf h0 (fun k => if p then F k else G k) := by
  by_cases hp : p
  · have e : (fun k => if p then F k else G k) = F := by funext k; simp [hp]
    rw [e]; exact h
  · have e : (fun k => if p then F k else G k) = G := by funext k; simp [hp]
    rw [e]; exact h'
theorem cm_nf_none {h0 : cm_H} : cm_nf h0 (fun _ => none) := Or.inl ⟨none, fun _ => rfl, fun _ _ h => by cases h⟩
theorem cm_nf_r {h0 : cm_H} (v : Option cm_V ⊕ Nat) : cm_nf h0 (fun _ => some (v, h0)) := Or.inl ⟨_, fun _ => rfl, fun _ _ h => by cases h; exact cm_hle.rf _⟩
theorem cm_nf_e {h0 : cm_H} (b : Nat) : cm_nf h0 (fun _ => some (.inr b, cm_ex h0)) := Or.inl ⟨_, fun _ => rfl, fun _ _ h => by cases h; exact ⟨Nat.le_succ _, Nat.le_add_right _ _⟩⟩
theorem cm_nf_k {h0 : cm_H} (y pc : Nat) (ls : cm_L) (st : List cm_V) {h : cm_H} (hh : cm_hle h0 h) : cm_nf h0 (fun k => k y pc ls st h) := Or.inr (Or.inl ⟨_, _, _, _, _, hh, fun _ => rfl⟩)
theorem cm_nf_ild {h0 : cm_H} {ls : cm_L} {i : Nat} {K : cm_K → cm_V → cm_R} (h : ∀ v, cm_nf h0 (fun k => K k v)) : cm_nf h0 (fun k => cm_ild ls i (K k)) := by
  unfold cm_ild
  rcases ls[i]? with _ | _ | x | x | x <;> first | exact cm_nf_none | exact h _
theorem cm_nf_lld {h0 : cm_H} {ls : cm_L} {i : Nat} {K : cm_K → cm_V → cm_R} (h : ∀ v, cm_nf h0 (fun k => K k v)) : cm_nf h0 (fun k => cm_lld ls i (K k)) := by
  unfold cm_lld
  rcases ls[i]? with _ | _ | x | x | x <;> first | exact cm_nf_none | exact h _
theorem cm_nf_ald {h0 : cm_H} {ls : cm_L} {i : Nat} {K : cm_K → cm_V → cm_R} (h : ∀ v, cm_nf h0 (fun k => K k v)) : cm_nf h0 (fun k => cm_ald ls i (K k)) := by
  unfold cm_ald
  rcases ls[i]? with _ | _ | x | x | x <;> first | exact cm_nf_none | exact h _
theorem cm_nf_ist {h0 : cm_H} {ls : cm_L} {i : Nat} {st : List cm_V} {K : cm_K → cm_L → List cm_V → cm_R} (h : ∀ a b, cm_nf h0 (fun k => K k a b)) : cm_nf h0 (fun k => cm_ist ls i st (K k)) := by
  unfold cm_ist
  rcases st with _ | ⟨a | a | a, st⟩ <;> first | exact cm_nf_none | exact cm_nf_ite (h _ _) cm_nf_none
theorem cm_nf_ast {h0 : cm_H} {ls : cm_L} {i : Nat} {st : List cm_V} {K : cm_K → cm_L → List cm_V → cm_R} (h : ∀ a b, cm_nf h0 (fun k => K k a b)) : cm_nf h0 (fun k => cm_ast ls i st (K k)) := by
  unfold cm_ast
  rcases st with _ | ⟨a | a | a, st⟩ <;> first | exact cm_nf_none | exact cm_nf_ite (h _ _) cm_nf_none
theorem cm_nf_lst {h0 : cm_H} {ls : cm_L} {i : Nat} {st : List cm_V} {K : cm_K → cm_L → List cm_V → cm_R} (h : ∀ a b, cm_nf h0 (fun k => K k a b)) : cm_nf h0 (fun k => cm_lst ls i st (K k)) := by
  unfold cm_lst
  rcases st with _ | ⟨a | a | a, st⟩ <;> first | exact cm_nf_none | exact cm_nf_ite (h _ _) cm_nf_none
theorem cm_nf_inc {h0 : cm_H} {ls : cm_L} {i : Nat} {n : Int} {K : cm_K → cm_L → cm_R} (h : ∀ a, cm_nf h0 (fun k => K k a)) : cm_nf h0 (fun k => cm_inc ls i n (K k)) := by
  unfold cm_inc
  rcases ls[i]? with _ | _ | x | x | x <;> first | exact cm_nf_none | exact h _
theorem cm_nf_i2 {h0 : cm_H} {f : Int → Int → Int} {st : List cm_V} {K : cm_K → List cm_V → cm_R} (h : ∀ a, cm_nf h0 (fun k => K k a)) : cm_nf h0 (fun k => cm_i2 f st (K k)) := by
  unfold cm_i2
  rcases st with _ | ⟨a | a | a, _ | ⟨b | b | b, st⟩⟩ <;> first | exact cm_nf_none | exact h _
theorem cm_nf_l2 {h0 : cm_H} {f : Int64 → Int64 → Int64} {st : List cm_V} {K : cm_K → List cm_V → cm_R} (h : ∀ a, cm_nf h0 (fun k => K k a)) : cm_nf h0 (fun k => cm_l2 f st (K k)) := by
  unfold cm_l2
  rcases st with _ | ⟨a | a | a, _ | ⟨b | b | b, st⟩⟩ <;> first | exact cm_nf_none | exact h _
theorem cm_nf_dv {h0 : cm_H} {st : List cm_V} {K : cm_K → List cm_V → cm_R} (h : ∀ a, cm_nf h0 (fun k => K k a)) : cm_nf h0 (fun k => cm_dv st (K k)) := by
  unfold cm_dv
  rcases st with _ | ⟨a | a | a, _ | ⟨b | b | b, st⟩⟩ <;> first | exact cm_nf_none | exact cm_nf_ck (h _)
theorem cm_nf_rm {h0 : cm_H} {st : List cm_V} {K : cm_K → List cm_V → cm_R} (h : ∀ a, cm_nf h0 (fun k => K k a)) : cm_nf h0 (fun k => cm_rm st (K k)) := by
  unfold cm_rm
  rcases st with _ | ⟨a | a | a, _ | ⟨b | b | b, st⟩⟩ <;> first | exact cm_nf_none | exact cm_nf_ck (h _)
theorem cm_nf_ldv {h0 : cm_H} {st : List cm_V} {K : cm_K → List cm_V → cm_R} (h : ∀ a, cm_nf h0 (fun k => K k a)) : cm_nf h0 (fun k => cm_ldv st (K k)) := by
  unfold cm_ldv
  rcases st with _ | ⟨a | a | a, _ | ⟨b | b | b, st⟩⟩ <;> first | exact cm_nf_none | exact cm_nf_ck (h _)
theorem cm_nf_lcm {h0 : cm_H} {st : List cm_V} {K : cm_K → List cm_V → cm_R} (h : ∀ a, cm_nf h0 (fun k => K k a)) : cm_nf h0 (fun k => cm_lcm st (K k)) := by
  unfold cm_lcm
  rcases st with _ | ⟨a | a | a, _ | ⟨b | b | b, st⟩⟩ <;> first | exact cm_nf_none | exact h _
theorem cm_nf_i2l {h0 : cm_H} {st : List cm_V} {K : cm_K → List cm_V → cm_R} (h : ∀ a, cm_nf h0 (fun k => K k a)) : cm_nf h0 (fun k => cm_i2l st (K k)) := by
  unfold cm_i2l
  rcases st with _ | ⟨a | a | a, st⟩ <;> first | exact cm_nf_none | exact h _
theorem cm_nf_dup {h0 : cm_H} {st : List cm_V} {K : cm_K → List cm_V → cm_R} (h : ∀ a, cm_nf h0 (fun k => K k a)) : cm_nf h0 (fun k => cm_dup st (K k)) := by
  unfold cm_dup
  rcases st with _ | ⟨a | a | a, st⟩ <;> first | exact cm_nf_none | exact h _
theorem cm_nf_pop {h0 : cm_H} {st : List cm_V} {K : cm_K → List cm_V → cm_R} (h : ∀ a, cm_nf h0 (fun k => K k a)) : cm_nf h0 (fun k => cm_pop st (K k)) := by
  unfold cm_pop
  rcases st with _ | ⟨a | a | a, st⟩ <;> first | exact cm_nf_none | exact h _
theorem cm_nf_dp2 {h0 : cm_H} {st : List cm_V} {K : cm_K → List cm_V → cm_R} (h : ∀ a, cm_nf h0 (fun k => K k a)) : cm_nf h0 (fun k => cm_dp2 st (K k)) := by
  unfold cm_dp2
  rcases st with _ | ⟨a | a | a, _ | ⟨b | b | b, st⟩⟩ <;> first | exact cm_nf_none | exact h _
theorem cm_nf_br {h0 : cm_H} {c : ClassFile.Cond} {a b : Int} {F G : cm_K → cm_R} (h : cm_nf h0 F) (h' : cm_nf h0 G) : cm_nf h0 (fun k => cm_br c a b (F k) (G k)) := by
  unfold cm_br
  cases c <;> first | exact cm_nf_ite h h' | exact cm_nf_ite h' h
theorem cm_nf_if1 {h0 : cm_H} {c : ClassFile.Cond} {st : List cm_V} {F G : cm_K → List cm_V → cm_R} (h : ∀ a, cm_nf h0 (fun k => F k a)) (h' : ∀ a, cm_nf h0 (fun k => G k a)) : cm_nf h0 (fun k => cm_if1 c st (F k) (G k)) := by
  unfold cm_if1
  rcases st with _ | ⟨a | a | a, st⟩ <;> first | exact cm_nf_none | exact cm_nf_br (h _) (h' _)
theorem cm_nf_if2 {h0 : cm_H} {c : ClassFile.Cond} {st : List cm_V} {F G : cm_K → List cm_V → cm_R} (h : ∀ a, cm_nf h0 (fun k => F k a)) (h' : ∀ a, cm_nf h0 (fun k => G k a)) : cm_nf h0 (fun k => cm_if2 c st (F k) (G k)) := by
  unfold cm_if2
  rcases st with _ | ⟨a | a | a, _ | ⟨b | b | b, st⟩⟩ <;> first | exact cm_nf_none | exact cm_nf_br (h _) (h' _)
theorem cm_nf_tsw {h0 : cm_H} {os : List Int} {x : Int} {F : cm_K → cm_R} {G : cm_K → Int → cm_R} (h : cm_nf h0 F) (h' : ∀ a, cm_nf h0 (fun k => G k a)) : ∀ a : Int, cm_nf h0 (fun k => cm_tsw os x a (F k) (G k)) := by
  induction os with
  | nil => intro a; exact h
  | cons o os ih => intro a; exact cm_nf_ite (h' _) (ih _)
theorem cm_nf_lsw {h0 : cm_H} {os : List (Int × Int)} {x : Int} {F : cm_K → cm_R} {G : cm_K → Int → cm_R} (h : cm_nf h0 F) (h' : ∀ a, cm_nf h0 (fun k => G k a)) : cm_nf h0 (fun k => cm_lsw os x (F k) (G k)) := by
  induction os with
  | nil => exact h
  | cons o os ih => exact cm_nf_ite (h' _) ih
theorem cm_nf_bool {h0 : cm_H} {b : Bool} {F G : cm_K → cm_R} (h : cm_nf h0 F) (h' : cm_nf h0 G) : cm_nf h0 (fun k => match b with | true => F k | false => G k) := by
  cases b
  · exact h'
  · exact h
theorem cm_nf_gf {h0 : cm_H} {t ci f : Nat} {st : List cm_V} {K : cm_K → List cm_V → cm_R} (h : ∀ a, cm_nf h0 (fun k => K k a)) : cm_nf h0 (fun k => cm_gf h0 t ci f st (K k)) := by
  unfold cm_gf
  rcases st with _ | ⟨a | a | a, st⟩
  · exact cm_nf_none
  · exact cm_nf_none
  · exact cm_nf_none
  · refine cm_nf_bool ?_ cm_nf_none
    rcases t with _ | _ | _ | t
    · exact h _
    · exact h _
    · exact cm_nf_bool (h _) cm_nf_none
    · exact h _
theorem cm_nf_pf {h0 : cm_H} {t ci f : Nat} {st : List cm_V} {K : cm_K → List cm_V → cm_H → cm_R} (h : ∀ a b, cm_hle h0 b → cm_nf h0 (fun k => K k a b)) : cm_nf h0 (fun k => cm_pf h0 t ci f st (K k)) := by
  unfold cm_pf
  rcases st with _ | ⟨a | a | a, _ | ⟨b | b | b, st⟩⟩ <;> first | exact cm_nf_none | skip
  · refine cm_nf_bool ?_ cm_nf_none
    rcases t with _ | _ | _ | t
    · exact h _ _ ⟨Nat.le_refl _, Nat.le_refl _⟩
    · exact cm_nf_ck (h _ _ ⟨Nat.le_refl _, Nat.le_refl _⟩)
    · exact cm_nf_none
    · exact cm_nf_none
  · refine cm_nf_bool ?_ cm_nf_none
    rcases t with _ | _ | _ | t
    · exact cm_nf_none
    · exact cm_nf_none
    · exact cm_nf_bool (h _ _ ⟨Nat.le_refl _, Nat.le_refl _⟩) cm_nf_none
    · exact cm_nf_none
theorem cm_nf_al {h0 : cm_H} {t : Nat} {st : List cm_V} {K : cm_K → List cm_V → cm_R} (h : ∀ a, cm_nf h0 (fun k => K k a)) : cm_nf h0 (fun k => cm_al h0 t st (K k)) := by
  unfold cm_al
  rcases st with _ | ⟨a | a | a, _ | ⟨b | b | b, st⟩⟩ <;> first | exact cm_nf_none | exact cm_nf_bool (cm_nf_ck (h _)) cm_nf_none
theorem cm_nf_as {h0 : cm_H} {t : Nat} {st : List cm_V} {K : cm_K → List cm_V → cm_H → cm_R} (h : ∀ a b, cm_hle h0 b → cm_nf h0 (fun k => K k a b)) : cm_nf h0 (fun k => cm_as h0 t st (K k)) := by
  unfold cm_as
  rcases st with _ | ⟨a | a | a, _ | ⟨b | b | b, _ | ⟨c | c | c, st⟩⟩⟩ <;> first | exact cm_nf_none | exact cm_nf_bool (cm_nf_ck (h _ _ ⟨Nat.le_refl _, Nat.le_refl _⟩)) cm_nf_none
theorem cm_nf_jl {h0 : cm_H} {st : List cm_V} {K : cm_K → List cm_V → cm_R} (h : ∀ a, cm_nf h0 (fun k => K k a)) : cm_nf h0 (fun k => cm_jl h0 st (K k)) := by
  unfold cm_jl
  rcases st with _ | ⟨a | a | a, _ | ⟨b | b | b, st⟩⟩ <;> first | exact cm_nf_none | exact cm_nf_bool (cm_nf_ck (h _)) cm_nf_none
theorem cm_nf_js {h0 : cm_H} {st : List cm_V} {K : cm_K → List cm_V → cm_H → cm_R} (h : ∀ a b, cm_hle h0 b → cm_nf h0 (fun k => K k a b)) : cm_nf h0 (fun k => cm_js h0 st (K k)) := by
  unfold cm_js
  rcases st with _ | ⟨a | a | a, _ | ⟨b | b | b, _ | ⟨c | c | c, st⟩⟩⟩ <;> first | exact cm_nf_none | exact cm_nf_bool (cm_nf_ck (h _ _ ⟨Nat.le_refl _, Nat.le_refl _⟩)) cm_nf_none
theorem cm_nf_rl {h0 : cm_H} {st : List cm_V} {K : cm_K → List cm_V → cm_R} (h : ∀ a, cm_nf h0 (fun k => K k a)) : cm_nf h0 (fun k => cm_rl h0 st (K k)) := by
  unfold cm_rl
  rcases st with _ | ⟨a | a | a, _ | ⟨b | b | b, st⟩⟩ <;> first | exact cm_nf_none | exact cm_nf_bool (cm_nf_ck (cm_nf_ck (h _))) cm_nf_none
theorem cm_nf_rs {h0 : cm_H} {st : List cm_V} {K : cm_K → List cm_V → cm_H → cm_R} (h : ∀ a b, cm_hle h0 b → cm_nf h0 (fun k => K k a b)) : cm_nf h0 (fun k => cm_rs h0 st (K k)) := by
  unfold cm_rs
  rcases st with _ | ⟨a | a | a, _ | ⟨b | b | b, _ | ⟨c | c | c, st⟩⟩⟩ <;> first | exact cm_nf_none | exact cm_nf_bool (cm_nf_ck (h _ _ ⟨Nat.le_refl _, Nat.le_refl _⟩)) cm_nf_none
theorem cm_nf_ln {h0 : cm_H} {st : List cm_V} {K : cm_K → List cm_V → cm_R} (h : ∀ a, cm_nf h0 (fun k => K k a)) : cm_nf h0 (fun k => cm_ln h0 st (K k)) := by
  unfold cm_ln
  rcases st with _ | ⟨a | a | a, st⟩ <;> first | exact cm_nf_none | exact cm_nf_bool (h _) cm_nf_none
theorem cm_nf_na {h0 : cm_H} {t : Nat} {st : List cm_V} {K : cm_K → List cm_V → cm_H → cm_R} (h : ∀ a b, cm_hle h0 b → cm_nf h0 (fun k => K k a b)) : cm_nf h0 (fun k => cm_na h0 t st (K k)) := by
  unfold cm_na
  rcases st with _ | ⟨a | a | a, st⟩ <;> first | exact cm_nf_none | exact cm_nf_bool (cm_nf_ck (h _ _ ⟨Nat.le_succ _, Nat.le_add_right _ _⟩)) cm_nf_none
theorem cm_nf_nw {h0 : cm_H} {ci n : Nat} {st : List cm_V} {K : cm_K → List cm_V → cm_H → cm_R} (h : ∀ a b, cm_hle h0 b → cm_nf h0 (fun k => K k a b)) : cm_nf h0 (fun k => cm_nw h0 ci n st (K k)) := cm_nf_bool (h _ _ ⟨Nat.le_succ _, Nat.le_add_right _ _⟩) cm_nf_none
theorem cm_nf_cpy {h0 : cm_H} {st : List cm_V} {K : cm_K → List cm_V → cm_H → cm_R} (h : ∀ a b, cm_hle h0 b → cm_nf h0 (fun k => K k a b)) : cm_nf h0 (fun k => cm_cpy h0 st (K k)) := by
  unfold cm_cpy
  rcases st with _ | ⟨a | a | a, _ | ⟨b | b | b, _ | ⟨c | c | c, _ | ⟨d | d | d, _ | ⟨e | e | e, st⟩⟩⟩⟩⟩ <;> first | exact cm_nf_none | exact cm_nf_bool (cm_nf_ck (h _ _ ⟨Nat.le_refl _, Nat.le_refl _⟩)) cm_nf_none
theorem cm_nf_sln {h0 : cm_H} {st : List cm_V} {K : cm_K → List cm_V → cm_R} (h : ∀ a, cm_nf h0 (fun k => K k a)) : cm_nf h0 (fun k => cm_sln st (K k)) := by
  unfold cm_sln
  rcases st with _ | ⟨a | a | a, st⟩ <;> first | exact cm_nf_none | exact cm_nf_bool (h _) cm_nf_none
theorem cm_nf_sch {h0 : cm_H} {st : List cm_V} {K : cm_K → List cm_V → cm_R} (h : ∀ a, cm_nf h0 (fun k => K k a)) : cm_nf h0 (fun k => cm_sch st (K k)) := by
  unfold cm_sch
  rcases st with _ | ⟨a | a | a, _ | ⟨b | b | b, st⟩⟩ <;> first | exact cm_nf_none | exact cm_nf_bool (cm_nf_ck (h _)) cm_nf_none
theorem cm_nf_ab {h0 : cm_H} {st : List cm_V} {K : cm_K → List cm_V → cm_R} (h : ∀ a, cm_nf h0 (fun k => K k a)) : cm_nf h0 (fun k => cm_ab st (K k)) := by
  unfold cm_ab
  rcases st with _ | ⟨a | a | a, st⟩ <;> first | exact cm_nf_none | exact h _
theorem cm_nf_oi {h0 : cm_H} {st : List cm_V} {K : cm_K → List cm_V → cm_R} (h : ∀ a, cm_nf h0 (fun k => K k a)) : cm_nf h0 (fun k => cm_oi st (K k)) := by
  unfold cm_oi
  rcases st with _ | ⟨a | a | a, st⟩ <;> first | exact cm_nf_none | exact h _
theorem cm_nf_own (y pc l b c : Nat) (ls : cm_L) (st : List cm_V) (h : cm_H) : cm_nf h (fun k => cm_own k y pc l b c ls st h) := by
  unfold cm_own
  refine cm_nf_bool ?_ cm_nf_none
  exact Or.inr (Or.inr ⟨_, _, _, _, _, _, _, _, fun _ => rfl⟩)
theorem cm_nf_lib (y pc n : Nat) (ls : cm_L) (st : List cm_V) (h : cm_H) : cm_nf h (fun k => cm_lib k y pc n ls st h) := by
  unfold cm_lib
  refine cm_nf_bool ?_ cm_nf_none
  rcases n with _ | _ | _ | _ | _ | _ | _ | _ | n
  · exact cm_nf_none
  · exact cm_nf_oi fun _ => cm_nf_k _ _ _ _ (cm_hle.rf _)
  · exact cm_nf_i2 fun _ => cm_nf_k _ _ _ _ (cm_hle.rf _)
  · exact cm_nf_i2 fun _ => cm_nf_k _ _ _ _ (cm_hle.rf _)
  · exact cm_nf_ab fun _ => cm_nf_k _ _ _ _ (cm_hle.rf _)
  · exact cm_nf_cpy fun _ _ hh => cm_nf_k _ _ _ _ hh
  · exact cm_nf_bool (cm_nf_sln fun _ => cm_nf_k _ _ _ _ (cm_hle.rf _)) cm_nf_none
  · exact cm_nf_bool (cm_nf_sch fun _ => cm_nf_k _ _ _ _ (cm_hle.rf _)) cm_nf_none
  · exact cm_nf_none
theorem cm_nf_cl (y pc l a b c : Nat) (ls : cm_L) (st : List cm_V) (h : cm_H) : cm_nf h (fun k => cm_cl k y pc l a b c ls st h) :=
  cm_nf_bool (cm_nf_own _ _ _ _ _ _ _ _) (cm_nf_bool (cm_nf_lib _ _ _ _ _ _) (cm_nf_bool (cm_nf_own _ _ _ _ _ _ _ _) cm_nf_none))
theorem cm_nf_kn (y pc a b : Nat) (ls : cm_L) (st : List cm_V) (h : cm_H) : cm_nf h (fun k => cm_kn k y pc a b ls st h) := by
  unfold cm_kn
  rcases a with _ | _ | a
  · exact cm_nf_k _ _ _ _ (cm_hle.rf _)
  · exact cm_nf_k _ _ _ _ (cm_hle.rf _)
  · exact cm_nf_none
set_option maxHeartbeats 4000000 in
theorem cm_nf_do (y pc : Nat) (en : cm_E) (ls : cm_L) (st : List cm_V) (h : cm_H) : cm_nf h (fun k => cm_do k y pc en ls st h) := by
  obtain ⟨i, l, a, b, c⟩ := en
  cases i
  all_goals dsimp only [cm_do]
  all_goals first
    | exact cm_nf_none
    | exact cm_nf_k _ _ _ _ (cm_hle.rf _)
    | exact cm_nf_kn _ _ _ _ _ _ _
    | exact cm_nf_cl _ _ _ _ _ _ _ _ _
    | exact cm_nf_ild fun _ => cm_nf_k _ _ _ _ (cm_hle.rf _)
    | exact cm_nf_lld fun _ => cm_nf_k _ _ _ _ (cm_hle.rf _)
    | exact cm_nf_ald fun _ => cm_nf_k _ _ _ _ (cm_hle.rf _)
    | exact cm_nf_ist fun _ _ => cm_nf_k _ _ _ _ (cm_hle.rf _)
    | exact cm_nf_ast fun _ _ => cm_nf_k _ _ _ _ (cm_hle.rf _)
    | exact cm_nf_lst fun _ _ => cm_nf_k _ _ _ _ (cm_hle.rf _)
    | exact cm_nf_inc fun _ => cm_nf_k _ _ _ _ (cm_hle.rf _)
    | exact cm_nf_i2 fun _ => cm_nf_k _ _ _ _ (cm_hle.rf _)
    | exact cm_nf_l2 fun _ => cm_nf_k _ _ _ _ (cm_hle.rf _)
    | exact cm_nf_dv fun _ => cm_nf_k _ _ _ _ (cm_hle.rf _)
    | exact cm_nf_rm fun _ => cm_nf_k _ _ _ _ (cm_hle.rf _)
    | exact cm_nf_ldv fun _ => cm_nf_k _ _ _ _ (cm_hle.rf _)
    | exact cm_nf_lcm fun _ => cm_nf_k _ _ _ _ (cm_hle.rf _)
    | exact cm_nf_i2l fun _ => cm_nf_k _ _ _ _ (cm_hle.rf _)
    | exact cm_nf_dup fun _ => cm_nf_k _ _ _ _ (cm_hle.rf _)
    | exact cm_nf_dp2 fun _ => cm_nf_k _ _ _ _ (cm_hle.rf _)
    | exact cm_nf_pop fun _ => cm_nf_k _ _ _ _ (cm_hle.rf _)
    | exact cm_nf_if1 (fun _ => cm_nf_k _ _ _ _ (cm_hle.rf _)) (fun _ => cm_nf_k _ _ _ _ (cm_hle.rf _))
    | exact cm_nf_if2 (fun _ => cm_nf_k _ _ _ _ (cm_hle.rf _)) (fun _ => cm_nf_k _ _ _ _ (cm_hle.rf _))
    | exact cm_nf_gf fun _ => cm_nf_k _ _ _ _ (cm_hle.rf _)
    | exact cm_nf_pf fun _ _ hh => cm_nf_k _ _ _ _ hh
    | exact cm_nf_al fun _ => cm_nf_k _ _ _ _ (cm_hle.rf _)
    | exact cm_nf_as fun _ _ hh => cm_nf_k _ _ _ _ hh
    | exact cm_nf_jl fun _ => cm_nf_k _ _ _ _ (cm_hle.rf _)
    | exact cm_nf_js fun _ _ hh => cm_nf_k _ _ _ _ hh
    | exact cm_nf_rl fun _ => cm_nf_k _ _ _ _ (cm_hle.rf _)
    | exact cm_nf_rs fun _ _ hh => cm_nf_k _ _ _ _ hh
    | exact cm_nf_ln fun _ => cm_nf_k _ _ _ _ (cm_hle.rf _)
    | exact cm_nf_na fun _ _ hh => cm_nf_k _ _ _ _ hh
    | (rcases st with _ | ⟨x | x | x, st⟩ <;> first | exact cm_nf_none | exact cm_nf_tsw (cm_nf_k _ _ _ _ (cm_hle.rf _)) (fun _ => cm_nf_k _ _ _ _ (cm_hle.rf _)) _)
    | (rcases st with _ | ⟨x | x | x, st⟩ <;> first | exact cm_nf_none | exact cm_nf_lsw (cm_nf_k _ _ _ _ (cm_hle.rf _)) (fun _ => cm_nf_k _ _ _ _ (cm_hle.rf _)))
    | (rcases a with _ | a <;> first | exact cm_nf_nw fun _ _ hh => cm_nf_k _ _ _ _ hh | (rcases st with _ | ⟨z, st⟩ <;> first | exact cm_nf_e _ | exact cm_nf_none))
    | (rcases st with _ | ⟨x | x | x, _ | ⟨z, st⟩⟩ <;> first | exact cm_nf_none | (rcases a with _ | a <;> first | exact cm_nf_r _ | exact cm_nf_ck (cm_nf_r _)))
    | (rcases st with _ | ⟨x | x | x, _ | ⟨z, st⟩⟩ <;> first | exact cm_nf_none | exact cm_nf_r _)
    | (rcases st with _ | ⟨z, st⟩ <;> first | exact cm_nf_none | exact cm_nf_r _)
theorem cm_nf_st (y pc : Nat) (ls : cm_L) (st : List cm_V) (h : cm_H) : cm_nf h (fun k => cm_st k y pc ls st h) := by
  unfold cm_st
  rcases cm_fd (cm_cd y) pc with _ | en
  · exact cm_nf_none
  · exact cm_nf_do y pc en ls st h
/-- more of k: more of F -/
theorem cm_nf_mono {h0 : cm_H} {F : cm_K → cm_R} (hF : cm_nf h0 F) {k k' : cm_K} (hk : ∀ y pc ls st h r, k y pc ls st h = some r → k' y pc ls st h = some r) {r} (hr : F k = some r) : F k' = some r := by
  rcases hF with ⟨c, h, -⟩ | ⟨y, pc, ls, st, hx, -, h⟩ | ⟨b, as_, y, pc0, pc, ls, st, hs, h⟩
  · rw [h] at hr; rw [h]; exact hr
  · rw [h] at hr; rw [h]; exact hk _ _ _ _ _ _ hr
  · rw [h] at hr; rw [h]
    cases e : k b 0 as_ [] h0 with
    | none => rw [e] at hr; cases hr
    | some q =>
      rw [hk _ _ _ _ _ _ e]
      rw [e] at hr
      obtain ⟨o, h1⟩ := q
      rcases o with (_ | v) | x
      · exact hk _ _ _ _ _ _ hr
      · exact hk _ _ _ _ _ _ hr
      · show (match cm_hn hs pc0 x with
          | none => some (.inr x, h1)
          | some t => k' y t ls [.inr (.inr 300000)] h1) = some r
        have hr : (match cm_hn hs pc0 x with
          | none => some (.inr x, h1)
          | some t => k y t ls [.inr (.inr 300000)] h1) = some r := hr
        cases e2 : cm_hn hs pc0 x with
        | none => rw [e2] at hr; exact hr
        | some t => rw [e2] at hr; exact hk _ _ _ _ _ _ hr
theorem cm_nf_hle {h0 : cm_H} {F : cm_K → cm_R} (hF : cm_nf h0 F) {k : cm_K} (hk : ∀ y pc ls st h r h1, k y pc ls st h = some (r, h1) → cm_hle h h1) {r h1} (hr : F k = some (r, h1)) : cm_hle h0 h1 := by
  rcases hF with ⟨c, h, hc⟩ | ⟨y, pc, ls, st, hx, hh, h⟩ | ⟨b, as_, y, pc0, pc, ls, st, hs, h⟩
  · rw [h] at hr; exact hc _ _ hr
  · rw [h] at hr; exact hh.tr (hk _ _ _ _ _ _ _ hr)
  · rw [h] at hr
    cases e : k b 0 as_ [] h0 with
    | none => rw [e] at hr; cases hr
    | some q =>
      rw [e] at hr
      obtain ⟨o, h2⟩ := q
      have h3 := hk _ _ _ _ _ _ _ e
      rcases o with (_ | v) | x
      · exact h3.tr (hk _ _ _ _ _ _ _ hr)
      · exact h3.tr (hk _ _ _ _ _ _ _ hr)
      · have hr : (match cm_hn hs pc0 x with
          | none => some (.inr x, h2)
          | some t => k y t ls [.inr (.inr 300000)] h2) = some (r, h1) := hr
        cases e2 : cm_hn hs pc0 x with
        | none => rw [e2] at hr; cases hr; exact h3
        | some t => rw [e2] at hr; exact h3.tr (hk _ _ _ _ _ _ _ hr)
theorem cm_run_hle : ∀ n y pc ls st h r h1, cm_run n y pc ls st h = some (r, h1) → cm_hle h h1 := by
  intro n
  induction n with
  | zero => intro y pc ls st h r h1 hr; cases hr
  | succ n ih => intro y pc ls st h r h1 hr; exact cm_nf_hle (cm_nf_st y pc ls st h) ih hr
theorem cm_run_s : ∀ n y pc ls st h r, cm_run n y pc ls st h = some r → cm_run (n + 1) y pc ls st h = some r := by
  intro n
  induction n with
  | zero => intro y pc ls st h r hr; cases hr
  | succ n ih =>
    intro y pc ls st h r hr
    exact cm_nf_mono (cm_nf_st y pc ls st h) ih hr
theorem cm_run_le {n m : Nat} (hm : n ≤ m) {y pc ls st h r} (hr : cm_run n y pc ls st h = some r) : cm_run m y pc ls st h = some r := by
  induction hm with
  | refl => exact hr
  | step _ ih => exact cm_run_s _ _ _ _ _ _ _ ih
/-- where it comes to an end, at whatever step -/
noncomputable def cm_x : cm_K := fun y pc ls st h => by
  classical
  exact if e : ∃ r n, cm_run n y pc ls st h = some r then some e.choose else none
theorem cm_x_of {n y pc ls st h r} (hr : cm_run n y pc ls st h = some r) : cm_x y pc ls st h = some r := by
  classical
  have e : ∃ r n, cm_run n y pc ls st h = some r := ⟨r, n, hr⟩
  have h1 : cm_x y pc ls st h = some e.choose := by unfold cm_x; rw [dif_pos e]
  obtain ⟨m, hm⟩ := e.choose_spec
  have h2 := cm_run_le (Nat.le_max_left n m) hr
  have h3 := cm_run_le (Nat.le_max_right n m) hm
  rw [h2] at h3
  rw [h1, ← h3]
theorem cm_x_run {y pc ls st h r} (hr : cm_x y pc ls st h = some r) : ∃ n, cm_run n y pc ls st h = some r := by
  classical
  by_cases e : ∃ r n, cm_run n y pc ls st h = some r
  · obtain ⟨r', n, hn⟩ := e
    have := cm_x_of hn
    rw [this] at hr
    exact ⟨n, by rw [hn, hr]⟩
  · have h1 : cm_x y pc ls st h = none := by unfold cm_x; rw [dif_neg e]
    rw [h1] at hr; cases hr
theorem cm_nf_cont {h0 : cm_H} {F : cm_K → cm_R} (hF : cm_nf h0 F) {r} (hr : F cm_x = some r) : ∃ n, F (cm_run n) = some r := by
  rcases hF with ⟨c, h, -⟩ | ⟨y, pc, ls, st, hx, -, h⟩ | ⟨b, as_, y, pc0, pc, ls, st, hs, h⟩
  · exact ⟨0, by rw [h] at hr; rw [h]; exact hr⟩
  · rw [h] at hr
    obtain ⟨n, hn⟩ := cm_x_run hr
    exact ⟨n, by rw [h]; exact hn⟩
  · rw [h] at hr
    cases e : cm_x b 0 as_ [] h0 with
    | none => rw [e] at hr; cases hr
    | some q =>
      rw [e] at hr
      obtain ⟨n1, hn1⟩ := cm_x_run e
      obtain ⟨o, h1⟩ := q
      rcases o with (_ | v) | x
      · obtain ⟨n2, hn2⟩ := cm_x_run (show cm_x y pc ls st h1 = some r from hr)
        refine ⟨max n1 n2, ?_⟩
        rw [h, cm_run_le (Nat.le_max_left n1 n2) hn1]
        exact cm_run_le (Nat.le_max_right n1 n2) hn2
      · obtain ⟨n2, hn2⟩ := cm_x_run (show cm_x y pc ls (v :: st) h1 = some r from hr)
        refine ⟨max n1 n2, ?_⟩
        rw [h, cm_run_le (Nat.le_max_left n1 n2) hn1]
        exact cm_run_le (Nat.le_max_right n1 n2) hn2
      · have hr : (match cm_hn hs pc0 x with
          | none => some (.inr x, h1)
          | some t => cm_x y t ls [.inr (.inr 300000)] h1) = some r := hr
        cases e2 : cm_hn hs pc0 x with
        | none =>
          refine ⟨n1, ?_⟩
          rw [h, hn1]
          show (match cm_hn hs pc0 x with
            | none => some (.inr x, h1)
            | some t => cm_run n1 y t ls [.inr (.inr 300000)] h1) = some r
          rw [e2]
          rw [e2] at hr
          exact hr
        | some t =>
          rw [e2] at hr
          obtain ⟨n2, hn2⟩ := cm_x_run (show cm_x y t ls [.inr (.inr 300000)] h1 = some r from hr)
          refine ⟨max n1 n2, ?_⟩
          rw [h, cm_run_le (Nat.le_max_left n1 n2) hn1]
          show (match cm_hn hs pc0 x with
            | none => some (.inr x, h1)
            | some t => cm_run (max n1 n2) y t ls [.inr (.inr 300000)] h1) = some r
          rw [e2]
          exact cm_run_le (Nat.le_max_right n1 n2) hn2
theorem cm_x_eq (y pc : Nat) (ls : cm_L) (st : List cm_V) (h : cm_H) : cm_x y pc ls st h = cm_st cm_x y pc ls st h := by
  have a : ∀ r, cm_st cm_x y pc ls st h = some r → cm_x y pc ls st h = some r := by
    intro r hr
    obtain ⟨n, hn⟩ := cm_nf_cont (cm_nf_st y pc ls st h) hr
    exact cm_x_of (n := n + 1) hn
  have b : ∀ r, cm_x y pc ls st h = some r → cm_st cm_x y pc ls st h = some r := by
    intro r hr
    obtain ⟨n, hn⟩ := cm_x_run hr
    cases n with
    | zero => cases hn
    | succ n => exact cm_nf_mono (cm_nf_st y pc ls st h) (fun _ _ _ _ _ _ hx => cm_x_of hx) hn
  cases e : cm_st cm_x y pc ls st h with
  | none =>
    cases e2 : cm_x y pc ls st h with
    | none => rfl
    | some r => rw [b r e2] at e; cases e
  | some r => exact a r e
/-- some steps on at once, as far as the places of 'cuts' -/
def cm_un (cuts : List Nat) (ex : cm_K) (y : Nat) (n : Nat) : Nat → cm_L → List cm_V → cm_H → cm_R := match n with
  | 0 => fun pc ls st h => ex y pc ls st h
  | n + 1 => fun pc ls st h => cm_st (fun y' pc' ls' st' h' => match y'.beq y with
    | true => match cuts.contains pc' with
      | true => ex y' pc' ls' st' h'
      | false => cm_un cuts ex y n pc' ls' st' h'
    | false => ex y' pc' ls' st' h') y pc ls st h
theorem cm_un_eq (cuts : List Nat) (y : Nat) : ∀ n pc ls st h, cm_un cuts cm_x y n pc ls st h = cm_x y pc ls st h := by
  intro n
  induction n with
  | zero => intro pc ls st h; rfl
  | succ n ih =>
    intro pc ls st h
    rw [cm_x_eq]
    show cm_st _ y pc ls st h = _
    congr 1
    funext y' pc' ls' st' h'
    cases e : y'.beq y with
    | false => rfl
    | true =>
      have : y' = y := Nat.eq_of_beq_eq_true e
      subst this
      cases cuts.contains pc' with
      | true => rfl
      | false => exact ih _ _ _ _
