/-! no run of a method changes the script -/
variable {h h1 : cm_H} {q : cm_R} {k : cm_K}
/-- the script is no object, and cells that are made lie below it -/
def cm_iv (h : cm_H) : Prop := (h.1 100000).1 = 1 ∧ h.2.2.2.2.1 ≤ 99999
def cm_gd (h : cm_H) (q : cm_R) : Prop := ∀ r h', q = some (r, h') → cm_iv h' ∧ h'.2.2.1 100000 = h.2.2.1 100000
theorem gd_n : cm_gd h none := fun r h' e => by cases e
theorem gd_so {r : Option cm_V ⊕ Nat} (hv : cm_iv h) : cm_gd h (some (r, h)) := fun r' h' e => by
  have := congrArg Prod.snd (Option.some.inj e)
  dsimp only at this
  rw [← this]
  exact ⟨hv, rfl⟩
theorem gd_tr (he : h1.2.2.1 100000 = h.2.2.1 100000) (hq : cm_gd h1 q) : cm_gd h q := fun r h' e => ⟨(hq r h' e).1, (hq r h' e).2.trans he⟩
theorem gd_ck {p : Prop} [Decidable p] (hq : cm_gd h q) : cm_gd h (cm_ck p q) := by
  unfold cm_ck
  split
  · exact hq
  · exact gd_n
theorem gd_ite {p : Prop} [Decidable p] {q' : cm_R} (hq : cm_gd h q) (hq' : cm_gd h q') : cm_gd h (if p then q else q') := by
  split
  · exact hq
  · exact hq'
def gdK (k : cm_K) : Prop := ∀ y pc ls st h, cm_iv h → cm_gd h (k y pc ls st h)
theorem gd_ild {ls : cm_L} {i : Nat} {f : cm_V → cm_R} (hf : ∀ v, cm_gd h (f v)) : cm_gd h (cm_ild ls i f) := by
  unfold cm_ild
  split
  · exact hf _
  · exact gd_n
theorem gd_lld {ls : cm_L} {i : Nat} {f : cm_V → cm_R} (hf : ∀ v, cm_gd h (f v)) : cm_gd h (cm_lld ls i f) := by
  unfold cm_lld
  split
  · exact hf _
  · exact gd_n
theorem gd_ald {ls : cm_L} {i : Nat} {f : cm_V → cm_R} (hf : ∀ v, cm_gd h (f v)) : cm_gd h (cm_ald ls i f) := by
  unfold cm_ald
  split
  · exact hf _
  · exact gd_n
theorem gd_ist {ls : cm_L} {i : Nat} {st : List cm_V} {f : cm_L → List cm_V → cm_R} (hf : ∀ a b, cm_gd h (f a b)) : cm_gd h (cm_ist ls i st f) := by
  unfold cm_ist
  split
  · exact gd_ite (hf _ _) gd_n
  · exact gd_n
theorem gd_ast {ls : cm_L} {i : Nat} {st : List cm_V} {f : cm_L → List cm_V → cm_R} (hf : ∀ a b, cm_gd h (f a b)) : cm_gd h (cm_ast ls i st f) := by
  unfold cm_ast
  split
  · exact gd_ite (hf _ _) gd_n
  · exact gd_n
theorem gd_lst {ls : cm_L} {i : Nat} {st : List cm_V} {f : cm_L → List cm_V → cm_R} (hf : ∀ a b, cm_gd h (f a b)) : cm_gd h (cm_lst ls i st f) := by
  unfold cm_lst
  split
  · exact gd_ite (hf _ _) gd_n
  · exact gd_n
theorem gd_inc {ls : cm_L} {i : Nat} {n : Int} {f : cm_L → cm_R} (hf : ∀ a, cm_gd h (f a)) : cm_gd h (cm_inc ls i n f) := by
  unfold cm_inc
  split
  · exact hf _
  · exact gd_n
theorem gd_i2 {g : Int → Int → Int} {st : List cm_V} {f : List cm_V → cm_R} (hf : ∀ a, cm_gd h (f a)) : cm_gd h (cm_i2 g st f) := by
  unfold cm_i2
  split
  · exact hf _
  · exact gd_n
theorem gd_l2 {g : Int64 → Int64 → Int64} {st : List cm_V} {f : List cm_V → cm_R} (hf : ∀ a, cm_gd h (f a)) : cm_gd h (cm_l2 g st f) := by
  unfold cm_l2
  split
  · exact hf _
  · exact gd_n
theorem gd_dv {st : List cm_V} {f : List cm_V → cm_R} (hf : ∀ a, cm_gd h (f a)) : cm_gd h (cm_dv st f) := by
  unfold cm_dv
  split
  · exact gd_ck (hf _)
  · exact gd_n
theorem gd_rm {st : List cm_V} {f : List cm_V → cm_R} (hf : ∀ a, cm_gd h (f a)) : cm_gd h (cm_rm st f) := by
  unfold cm_rm
  split
  · exact gd_ck (hf _)
  · exact gd_n
theorem gd_ldv {st : List cm_V} {f : List cm_V → cm_R} (hf : ∀ a, cm_gd h (f a)) : cm_gd h (cm_ldv st f) := by
  unfold cm_ldv
  split
  · exact gd_ck (hf _)
  · exact gd_n
theorem gd_lcm {st : List cm_V} {f : List cm_V → cm_R} (hf : ∀ a, cm_gd h (f a)) : cm_gd h (cm_lcm st f) := by
  unfold cm_lcm
  split
  · exact hf _
  · exact gd_n
theorem gd_i2l {st : List cm_V} {f : List cm_V → cm_R} (hf : ∀ a, cm_gd h (f a)) : cm_gd h (cm_i2l st f) := by
  unfold cm_i2l
  split
  · exact hf _
  · exact gd_n
theorem gd_dup {st : List cm_V} {f : List cm_V → cm_R} (hf : ∀ a, cm_gd h (f a)) : cm_gd h (cm_dup st f) := by
  unfold cm_dup
  split
  · exact hf _
  · exact hf _
  · exact gd_n
theorem gd_dp2 {st : List cm_V} {f : List cm_V → cm_R} (hf : ∀ a, cm_gd h (f a)) : cm_gd h (cm_dp2 st f) := by
  unfold cm_dp2
  split
  · exact hf _
  · exact gd_n
theorem gd_pop {st : List cm_V} {f : List cm_V → cm_R} (hf : ∀ a, cm_gd h (f a)) : cm_gd h (cm_pop st f) := by
  unfold cm_pop
  split
  · exact hf _
  · exact hf _
  · exact gd_n
theorem gd_br {c : ClassFile.Cond} {a b : Int} {t e : cm_R} (ht : cm_gd h t) (he : cm_gd h e) : cm_gd h (cm_br c a b t e) := by
  unfold cm_br
  split
  · exact gd_ite ht he
  · exact gd_ite he ht
  · exact gd_ite ht he
  · exact gd_ite he ht
  · exact gd_ite ht he
  · exact gd_ite he ht
theorem gd_if1 {c : ClassFile.Cond} {st : List cm_V} {t e : List cm_V → cm_R} (ht : ∀ a, cm_gd h (t a)) (he : ∀ a, cm_gd h (e a)) : cm_gd h (cm_if1 c st t e) := by
  unfold cm_if1
  split
  · exact gd_br (ht _) (he _)
  · exact gd_n
theorem gd_if2 {c : ClassFile.Cond} {st : List cm_V} {t e : List cm_V → cm_R} (ht : ∀ a, cm_gd h (t a)) (he : ∀ a, cm_gd h (e a)) : cm_gd h (cm_if2 c st t e) := by
  unfold cm_if2
  split
  · exact gd_br (ht _) (he _)
  · exact gd_n
theorem gd_tsw {x : Int} {d : cm_R} {j : Int → cm_R} (hd : cm_gd h d) (hj : ∀ o, cm_gd h (j o)) : ∀ (os : List Int) (a : Int), cm_gd h (cm_tsw os x a d j) := by
  intro os
  induction os with
  | nil => intro a; exact hd
  | cons o os ih => intro a; exact gd_ite (hj _) (ih _)
theorem gd_lsw {x : Int} {d : cm_R} {j : Int → cm_R} (hd : cm_gd h d) (hj : ∀ o, cm_gd h (j o)) : ∀ os : List (Int × Int), cm_gd h (cm_lsw os x d j) := by
  intro os
  induction os with
  | nil => exact hd
  | cons o os ih => exact gd_ite (hj _) ih
theorem gd_gf {t ci f : Nat} {st : List cm_V} {g : List cm_V → cm_R} (hg : ∀ a, cm_gd h (g a)) : cm_gd h (cm_gf h t ci f st g) := by
  unfold cm_gf
  split
  · split
    · split
      · split
        · exact hg _
        · exact gd_n
      · exact hg _
    · exact gd_n
  · exact gd_n
theorem iv_sI {a : Nat} {i v : Int} (hv : cm_iv h) : cm_iv (cm_sI h a i v) := hv
theorem sI_row {a : Nat} {i v : Int} (ha : a ≠ 100000) : (cm_sI h a i v).2.2.1 100000 = h.2.2.1 100000 := up_row (fun z => ha z.symm)
theorem kd_ne {a t n : Nat} (hv : cm_iv h) (hk : cm_kd h a t n = true) (ht : t ≠ 1) : a ≠ 100000 := fun z => by
  unfold cm_kd at hk
  rw [z] at hk
  have h1 := (Bool.and_eq_true_iff.mp hk).1
  have h2 := eq_of_beq h1
  rw [hv.1] at h2
  exact ht h2.symm
theorem gd_pf {t ci f : Nat} {st : List cm_V} {g : List cm_V → cm_H → cm_R} (hv : cm_iv h) (hg : ∀ a h, cm_iv h → cm_gd h (g a h)) : cm_gd h (cm_pf h t ci f st g) := by
  unfold cm_pf
  split
  · split
    · rename_i hk
      split
      · exact gd_tr (sI_row (kd_ne hv hk (by omega))) (hg _ _ hv)
      · exact gd_ck (gd_tr (sI_row (kd_ne hv hk (by omega))) (hg _ _ hv))
      · exact gd_n
    · exact gd_n
  · split
    · split
      · split
        · exact gd_tr (h1 := cm_sR h _ _ _) rfl (hg _ _ hv)
        · exact gd_n
      · exact gd_n
    · exact gd_n
  · exact gd_n
theorem gd_al {t : Nat} {st : List cm_V} {g : List cm_V → cm_R} (hg : ∀ a, cm_gd h (g a)) : cm_gd h (cm_al h t st g) := by
  unfold cm_al
  split
  · split
    · exact gd_ck (hg _)
    · exact gd_n
  · exact gd_n
theorem lt_ne {a : Nat} (hv : cm_iv h) (hb : a.blt h.2.2.2.2.1 = true) : a ≠ 100000 := fun z => by
  have h1 : a < h.2.2.2.2.1 := Nat.blt_eq.mp hb
  have := hv.2
  omega
theorem gd_as {t : Nat} {st : List cm_V} {g : List cm_V → cm_H → cm_R} (hv : cm_iv h) (hg : ∀ a h, cm_iv h → cm_gd h (g a h)) : cm_gd h (cm_as h t st g) := by
  unfold cm_as
  split
  · split
    · rename_i hk
      have h2 := (Bool.and_eq_true_iff.mp hk).2
      exact gd_ck (gd_tr (sI_row (lt_ne hv h2)) (hg _ _ hv))
    · exact gd_n
  · exact gd_n
theorem gd_jl {st : List cm_V} {g : List cm_V → cm_R} (hg : ∀ a, cm_gd h (g a)) : cm_gd h (cm_jl h st g) := by
  unfold cm_jl
  split
  · split
    · exact gd_ck (hg _)
    · exact gd_n
  · exact gd_n
theorem gd_js {st : List cm_V} {g : List cm_V → cm_H → cm_R} (hv : cm_iv h) (hg : ∀ a h, cm_iv h → cm_gd h (g a h)) : cm_gd h (cm_js h st g) := by
  unfold cm_js
  split
  · split
    · exact gd_ck (gd_tr (h1 := cm_sJ h _ _ _) rfl (hg _ _ hv))
    · exact gd_n
  · exact gd_n
theorem gd_rl {st : List cm_V} {g : List cm_V → cm_R} (hg : ∀ a, cm_gd h (g a)) : cm_gd h (cm_rl h st g) := by
  unfold cm_rl
  split
  · split
    · exact gd_ck (gd_ck (hg _))
    · exact gd_n
  · exact gd_n
theorem gd_rs {st : List cm_V} {g : List cm_V → cm_H → cm_R} (hv : cm_iv h) (hg : ∀ a h, cm_iv h → cm_gd h (g a h)) : cm_gd h (cm_rs h st g) := by
  unfold cm_rs
  split
  · split
    · exact gd_ck (gd_tr (h1 := cm_sR h _ _ _) rfl (hg _ _ hv))
    · exact gd_n
  · exact gd_n
theorem gd_ln {st : List cm_V} {g : List cm_V → cm_R} (hg : ∀ a, cm_gd h (g a)) : cm_gd h (cm_ln h st g) := by
  unfold cm_ln
  split
  · split
    · exact hg _
    · exact gd_n
  · exact gd_n
theorem mk_gd {kd : Nat × Nat} {n : Nat} (hv : cm_iv h) (hb : h.2.2.2.2.1.blt 99999 = true) {f : cm_H → cm_R} (hf : ∀ h, cm_iv h → cm_gd h (f h)) : cm_gd h (f (cm_mk h kd n)) := by
  have h1 : h.2.2.2.2.1 < 99999 := Nat.blt_eq.mp hb
  have e1 : (cm_mk h kd n).2.2.1 100000 = h.2.2.1 100000 := by
    show cm_ua h.2.2.1 h.2.2.2.2.1 (fun _ => 0) 100000 = _
    unfold cm_ua
    rw [if_neg (by omega)]
  refine gd_tr e1 (hf _ ⟨?_, ?_⟩)
  · show (cm_ua h.1 h.2.2.2.2.1 kd 100000).1 = 1
    unfold cm_ua
    rw [if_neg (by omega)]
    exact hv.1
  · show h.2.2.2.2.1 + 1 ≤ 99999
    omega
theorem gd_na {t : Nat} {st : List cm_V} {g : List cm_V → cm_H → cm_R} (hv : cm_iv h) (hg : ∀ a h, cm_iv h → cm_gd h (g a h)) : cm_gd h (cm_na h t st g) := by
  unfold cm_na
  split
  · split
    · rename_i hk
      have h2 := (Bool.and_eq_true_iff.mp hk).2
      exact gd_ck (mk_gd (f := fun h' => g _ h') hv h2 (fun h' hv' => hg _ h' hv'))
    · exact gd_n
  · exact gd_n
theorem gd_nw {ci n : Nat} {st : List cm_V} {g : List cm_V → cm_H → cm_R} (hv : cm_iv h) (hg : ∀ a h, cm_iv h → cm_gd h (g a h)) : cm_gd h (cm_nw h ci n st g) := by
  unfold cm_nw
  split
  · rename_i hk
    have h2 := (Bool.and_eq_true_iff.mp hk).2
    exact mk_gd (f := fun h' => g _ h') hv h2 (fun h' hv' => hg _ h' hv')
  · exact gd_n
theorem gd_cpy {st : List cm_V} {g : List cm_V → cm_H → cm_R} (hv : cm_iv h) (hg : ∀ a h, cm_iv h → cm_gd h (g a h)) : cm_gd h (cm_cpy h st g) := by
  unfold cm_cpy
  split
  · split
    · rename_i hk
      have h2 := (Bool.and_eq_true_iff.mp (Bool.and_eq_true_iff.mp (Bool.and_eq_true_iff.mp hk).2).2).1
      refine gd_ck (gd_tr ?_ (hg _ _ (show cm_iv (cm_sA h _ _) from hv)))
      exact ua_row (fun z => lt_ne hv h2 z.symm)
    · exact gd_n
  · exact gd_n
theorem gd_own {y pc l b c : Nat} {ls : cm_L} {st : List cm_V} (hk : gdK k) (hv : cm_iv h) : cm_gd h (cm_own k y pc l b c ls st h) := by
  unfold cm_own
  split
  · have hb := hk b 0 (cm_en (st.take c).reverse (cm_mL b)) [] h hv
    generalize k b 0 (cm_en (st.take c).reverse (cm_mL b)) [] h = q at hb
    unfold cm_bd
    split
    · exact gd_n
    · obtain ⟨a1, a2⟩ := hb _ _ rfl
      exact gd_tr a2 (hk _ _ _ _ _ a1)
    · obtain ⟨a1, a2⟩ := hb _ _ rfl
      exact gd_tr a2 (hk _ _ _ _ _ a1)
    · obtain ⟨a1, a2⟩ := hb _ _ rfl
      refine gd_tr a2 ?_
      dsimp only
      split
      · exact gd_so a1
      · exact hk _ _ _ _ _ a1
  · exact gd_n
theorem gd_lib {y pc n : Nat} {ls : cm_L} {st : List cm_V} (hk : gdK k) (hv : cm_iv h) : cm_gd h (cm_lib k y pc n ls st h) := by
  unfold cm_lib
  split
  · split
    · unfold cm_oi
      split
      · exact hk _ _ _ _ _ hv
      · exact gd_n
    · exact gd_i2 (fun a => hk _ _ _ _ _ hv)
    · exact gd_i2 (fun a => hk _ _ _ _ _ hv)
    · unfold cm_ab
      split
      · exact hk _ _ _ _ _ hv
      · exact gd_n
    · exact gd_cpy hv (fun a h' hv' => hk _ _ _ _ _ hv')
    · split
      · unfold cm_sln
        split
        · split
          · exact hk _ _ _ _ _ hv
          · exact gd_n
        · exact gd_n
      · exact gd_n
    · split
      · unfold cm_sch
        split
        · split
          · exact gd_ck (hk _ _ _ _ _ hv)
          · exact gd_n
        · exact gd_n
      · exact gd_n
    · exact gd_n
  · exact gd_n
theorem gd_cl {y pc l a b c : Nat} {ls : cm_L} {st : List cm_V} (hk : gdK k) (hv : cm_iv h) : cm_gd h (cm_cl k y pc l a b c ls st h) := by
  unfold cm_cl
  split
  · exact gd_own hk hv
  · split
    · exact gd_lib hk hv
    · split
      · exact gd_own hk hv
      · exact gd_n
theorem gd_kn {y pc a b : Nat} {ls : cm_L} {st : List cm_V} (hk : gdK k) (hv : cm_iv h) : cm_gd h (cm_kn k y pc a b ls st h) := by
  unfold cm_kn
  split
  · exact hk _ _ _ _ _ hv
  · exact hk _ _ _ _ _ hv
  · exact gd_n
theorem gd_do {y pc : Nat} {en : cm_E} {ls : cm_L} {st : List cm_V} (hk : gdK k) (hv : cm_iv h) : cm_gd h (cm_do k y pc en ls st h) := by
  have go : ∀ y pc ls st, cm_gd h (k y pc ls st h) := fun y pc ls st => hk y pc ls st h hv
  have gh : ∀ y pc ls st h', cm_iv h' → cm_gd h' (k y pc ls st h') := fun y pc ls st h' hv' => hk y pc ls st h' hv'
  obtain ⟨ins, l, a, b, c⟩ := en
  cases ins
  case iconst n => exact go _ _ _ _
  case bipush n => exact go _ _ _ _
  case sipush n => exact go _ _ _ _
  case lconst n => exact go _ _ _ _
  case ldc n => exact gd_kn hk hv
  case ldc_w n => exact gd_kn hk hv
  case ldc2_w n => exact go _ _ _ _
  case iload n =>
    show cm_gd h (cm_ild ls n (fun v => k y (pc + l) ls (v :: st) h))
    (refine gd_ild ?_; intro _; exact go _ _ _ _)
  case iload_n n =>
    show cm_gd h (cm_ild ls n.val (fun v => k y (pc + l) ls (v :: st) h))
    (refine gd_ild ?_; intro _; exact go _ _ _ _)
  case lload n =>
    show cm_gd h (cm_lld ls n (fun v => k y (pc + l) ls (v :: st) h))
    (refine gd_lld ?_; intro _; exact go _ _ _ _)
  case lload_n n =>
    show cm_gd h (cm_lld ls n.val (fun v => k y (pc + l) ls (v :: st) h))
    (refine gd_lld ?_; intro _; exact go _ _ _ _)
  case aload n =>
    show cm_gd h (cm_ald ls n (fun v => k y (pc + l) ls (v :: st) h))
    (refine gd_ald ?_; intro _; exact go _ _ _ _)
  case aload_n n =>
    show cm_gd h (cm_ald ls n.val (fun v => k y (pc + l) ls (v :: st) h))
    (refine gd_ald ?_; intro _; exact go _ _ _ _)
  case istore n =>
    show cm_gd h (cm_ist ls n st (fun ls st => k y (pc + l) ls st h))
    (refine gd_ist ?_; intro _ _; exact go _ _ _ _)
  case istore_n n =>
    show cm_gd h (cm_ist ls n.val st (fun ls st => k y (pc + l) ls st h))
    (refine gd_ist ?_; intro _ _; exact go _ _ _ _)
  case lstore n =>
    show cm_gd h (cm_lst ls n st (fun ls st => k y (pc + l) ls st h))
    (refine gd_lst ?_; intro _ _; exact go _ _ _ _)
  case lstore_n n =>
    show cm_gd h (cm_lst ls n.val st (fun ls st => k y (pc + l) ls st h))
    (refine gd_lst ?_; intro _ _; exact go _ _ _ _)
  case astore n =>
    show cm_gd h (cm_ast ls n st (fun ls st => k y (pc + l) ls st h))
    (refine gd_ast ?_; intro _ _; exact go _ _ _ _)
  case astore_n n =>
    show cm_gd h (cm_ast ls n.val st (fun ls st => k y (pc + l) ls st h))
    (refine gd_ast ?_; intro _ _; exact go _ _ _ _)
  case iinc i n =>
    show cm_gd h (cm_inc ls i n (fun ls => k y (pc + l) ls st h))
    (refine gd_inc ?_; intro _; exact go _ _ _ _)
  case iadd =>
    show cm_gd h (cm_i2 (fun a b => cm_wr (a + b)) st (fun st => k y (pc + l) ls st h))
    (refine gd_i2 ?_; intro _; exact go _ _ _ _)
  case isub =>
    show cm_gd h (cm_i2 (fun a b => cm_wr (a - b)) st (fun st => k y (pc + l) ls st h))
    (refine gd_i2 ?_; intro _; exact go _ _ _ _)
  case imul =>
    show cm_gd h (cm_i2 (fun a b => cm_wr (a * b)) st (fun st => k y (pc + l) ls st h))
    (refine gd_i2 ?_; intro _; exact go _ _ _ _)
  case iand =>
    show cm_gd h (cm_i2 cm_and st (fun st => k y (pc + l) ls st h))
    (refine gd_i2 ?_; intro _; exact go _ _ _ _)
  case ior =>
    show cm_gd h (cm_i2 cm_or st (fun st => k y (pc + l) ls st h))
    (refine gd_i2 ?_; intro _; exact go _ _ _ _)
  case ishl =>
    show cm_gd h (cm_i2 cm_shl st (fun st => k y (pc + l) ls st h))
    (refine gd_i2 ?_; intro _; exact go _ _ _ _)
  case ishr =>
    show cm_gd h (cm_i2 cm_shr st (fun st => k y (pc + l) ls st h))
    (refine gd_i2 ?_; intro _; exact go _ _ _ _)
  case iushr =>
    show cm_gd h (cm_i2 cm_ushr st (fun st => k y (pc + l) ls st h))
    (refine gd_i2 ?_; intro _; exact go _ _ _ _)
  case idiv =>
    show cm_gd h (cm_dv st (fun st => k y (pc + l) ls st h))
    (refine gd_dv ?_; intro _; exact go _ _ _ _)
  case irem =>
    show cm_gd h (cm_rm st (fun st => k y (pc + l) ls st h))
    (refine gd_rm ?_; intro _; exact go _ _ _ _)
  case ladd =>
    show cm_gd h (cm_l2 (fun a b => a + b) st (fun st => k y (pc + l) ls st h))
    (refine gd_l2 ?_; intro _; exact go _ _ _ _)
  case lmul =>
    show cm_gd h (cm_l2 (fun a b => a * b) st (fun st => k y (pc + l) ls st h))
    (refine gd_l2 ?_; intro _; exact go _ _ _ _)
  case ldiv =>
    show cm_gd h (cm_ldv st (fun st => k y (pc + l) ls st h))
    (refine gd_ldv ?_; intro _; exact go _ _ _ _)
  case lcmp =>
    show cm_gd h (cm_lcm st (fun st => k y (pc + l) ls st h))
    (refine gd_lcm ?_; intro _; exact go _ _ _ _)
  case i2l =>
    show cm_gd h (cm_i2l st (fun st => k y (pc + l) ls st h))
    (refine gd_i2l ?_; intro _; exact go _ _ _ _)
  case dup =>
    show cm_gd h (cm_dup st (fun st => k y (pc + l) ls st h))
    (refine gd_dup ?_; intro _; exact go _ _ _ _)
  case dup2 =>
    show cm_gd h (cm_dp2 st (fun st => k y (pc + l) ls st h))
    (refine gd_dp2 ?_; intro _; exact go _ _ _ _)
  case pop =>
    show cm_gd h (cm_pop st (fun st => k y (pc + l) ls st h))
    (refine gd_pop ?_; intro _; exact go _ _ _ _)
  case goto o => exact go _ _ _ _
  case ifCond c o =>
    show cm_gd h (cm_if1 c st (fun st => k y (cm_tgt pc o) ls st h) (fun st => k y (pc + l) ls st h))
    (refine gd_if1 ?_ ?_ <;> (intro _; exact go _ _ _ _))
  case if_icmp c o =>
    show cm_gd h (cm_if2 c st (fun st => k y (cm_tgt pc o) ls st h) (fun st => k y (pc + l) ls st h))
    (refine gd_if2 ?_ ?_ <;> (intro _; exact go _ _ _ _))
  case tableswitch d lo hi os =>
    show cm_gd h (match st with
      | .inl x :: st => cm_tsw os.toList x lo (k y (cm_tgt pc d) ls st h) (fun o => k y (cm_tgt pc o) ls st h)
      | _ => none)
    split
    · exact gd_tsw (go _ _ _ _) (fun _ => go _ _ _ _) _ _
    · exact gd_n
  case lookupswitch d ps =>
    show cm_gd h (match st with
      | .inl x :: st => cm_lsw ps.toList x (k y (cm_tgt pc d) ls st h) (fun o => k y (cm_tgt pc o) ls st h)
      | _ => none)
    split
    · exact gd_lsw (go _ _ _ _) (fun _ => go _ _ _ _) _
    · exact gd_n
  case getfield n =>
    show cm_gd h (cm_gf h a b c st (fun st => k y (pc + l) ls st h))
    (refine gd_gf ?_; intro _; exact go _ _ _ _)
  case putfield n =>
    show cm_gd h (cm_pf h a b c st (fun st h => k y (pc + l) ls st h))
    (refine gd_pf hv ?_; intro _ h' hv'; exact gh _ _ _ _ h' hv')
  case iaload =>
    show cm_gd h (cm_al h 1 st (fun st => k y (pc + l) ls st h))
    (refine gd_al ?_; intro _; exact go _ _ _ _)
  case iastore =>
    show cm_gd h (cm_as h 1 st (fun st h => k y (pc + l) ls st h))
    (refine gd_as hv ?_; intro _ h' hv'; exact gh _ _ _ _ h' hv')
  case baload =>
    show cm_gd h (cm_al h 2 st (fun st => k y (pc + l) ls st h))
    (refine gd_al ?_; intro _; exact go _ _ _ _)
  case bastore =>
    show cm_gd h (cm_as h 2 st (fun st h => k y (pc + l) ls st h))
    (refine gd_as hv ?_; intro _ h' hv'; exact gh _ _ _ _ h' hv')
  case laload =>
    show cm_gd h (cm_jl h st (fun st => k y (pc + l) ls st h))
    (refine gd_jl ?_; intro _; exact go _ _ _ _)
  case lastore =>
    show cm_gd h (cm_js h st (fun st h => k y (pc + l) ls st h))
    (refine gd_js hv ?_; intro _ h' hv'; exact gh _ _ _ _ h' hv')
  case aaload =>
    show cm_gd h (cm_rl h st (fun st => k y (pc + l) ls st h))
    (refine gd_rl ?_; intro _; exact go _ _ _ _)
  case aastore =>
    show cm_gd h (cm_rs h st (fun st h => k y (pc + l) ls st h))
    (refine gd_rs hv ?_; intro _ h' hv'; exact gh _ _ _ _ h' hv')
  case arraylength =>
    show cm_gd h (cm_ln h st (fun st => k y (pc + l) ls st h))
    (refine gd_ln ?_; intro _; exact go _ _ _ _)
  case newarray t =>
    show cm_gd h (cm_na h (cm_at_ t) st (fun st h => k y (pc + l) ls st h))
    (refine gd_na hv ?_; intro _ h' hv'; exact gh _ _ _ _ h' hv')
  case anewarray t =>
    show cm_gd h (cm_na h 4 st (fun st h => k y (pc + l) ls st h))
    (refine gd_na hv ?_; intro _ h' hv'; exact gh _ _ _ _ h' hv')
  case new n =>
    show cm_gd h (match a with
      | 0 => cm_nw h b c st (fun st h => k y (pc + l) ls st h)
      | _ => (match st with
        | [] => some (.inr b, cm_ex h)
        | _ => none))
    split
    · (refine gd_nw hv ?_; intro _ h' hv'; exact gh _ _ _ _ h' hv')
    · split
      · exact gd_tr (h1 := cm_ex h) rfl (gd_so hv)
      · exact gd_n
  case invokevirtual n => exact gd_cl hk hv
  case invokestatic n => exact gd_cl hk hv
  case invokespecial n => exact gd_cl hk hv
  case ireturn =>
    show cm_gd h (match st with
      | [.inl x] => (match a with
        | 0 => some (.inl (some (.inl x)), h)
        | _ => cm_ck (x = 0 ∨ x = 1) (some (.inl (some (.inl x)), h)))
      | _ => none)
    split
    · split
      · exact gd_so hv
      · exact gd_ck (gd_so hv)
    · exact gd_n
  case lreturn =>
    show cm_gd h (match st with
      | [.inr (.inl x)] => some (.inl (some (.inr (.inl x))), h)
      | _ => none)
    split
    · exact gd_so hv
    · exact gd_n
  case return_ =>
    show cm_gd h (match st with
      | [] => some (.inl none, h)
      | _ => none)
    split
    · exact gd_so hv
    · exact gd_n
  all_goals exact gd_n
theorem gd_run : ∀ n : Nat, gdK (cm_run n) := by
  intro n
  induction n with
  | zero => intro y pc ls st h _; exact gd_n
  | succ n ih =>
    intro y pc ls st h hv
    show cm_gd h (cm_st (cm_run n) y pc ls st h)
    unfold cm_st
    split
    · exact gd_do ih hv
    · exact gd_n
theorem x_row {y pc : Nat} {ls : cm_L} {st : List cm_V} {D D' : Nat → Int → Int} {X X' : cm_X} {r : Option cm_V ⊕ Nat} (hr : cm_x y pc ls st (cm_hp D X) = some (r, cm_hp D' X')) : D' 100000 = D 100000 := by
  obtain ⟨n, hn⟩ := cm_x_run hr
  have hv : cm_iv (cm_hp D X) := ⟨rfl, by show 634 ≤ 99999; omega⟩
  exact (gd_run n y pc ls st _ hv _ _ hn).2
