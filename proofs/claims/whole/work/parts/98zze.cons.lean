/-! the constructors: rows are made one behind the other -/
variable {L k a v ci f t s : Nat} {Rf : Nat → Int → Nat} {D : Nat → Int → Int} {st : List cm_V}
def cm_Kk (L k a : Nat) : Nat × Nat := if a < k ∨ a = 100000 then cm_K0 L a else (9, 0)
def cm_z0 : Nat → Int → Int64 := fun _ _ => 0
/-- k cells are made -/
def cm_cs (L k : Nat) (Rf : Nat → Int → Nat) (D : Nat → Int → Int) (s : Nat) : cm_H := (cm_Kk L k, Rf, D, cm_z0, k, k, s)
/-- nothing refers out of what is not made, and it is zero -/
def cm_frs (k : Nat) (Rf : Nat → Int → Nat) (D : Nat → Int → Int) : Prop := ∀ b : Nat, k ≤ b → b < 634 → Rf b = (fun _ => 400000) ∧ D b = fun _ => 0
theorem fr_m {k' : Nat} (h : cm_frs k Rf D) (hk : k ≤ k') : cm_frs k' Rf D := fun b h1 h2 => h b (Nat.le_trans hk h1) h2
theorem fr_u {x : Int} (h : cm_frs k Rf D) (ha : a < k) : cm_frs k (cm_up Rf a x v) D := fun b h1 h2 => ⟨(by
  show (if b = a then _ else Rf b) = _
  rw [if_neg (by omega)]
  exact (h b h1 h2).1), (h b h1 h2).2⟩
theorem fr_a {g : Int → Nat} (h : cm_frs k Rf D) (ha : a < k) : cm_frs k (cm_ua Rf a g) D := fun b h1 h2 => ⟨(by
  show (if b = a then _ else Rf b) = _
  rw [if_neg (by omega)]
  exact (h b h1 h2).1), (h b h1 h2).2⟩
theorem fr_d {x y : Int} (h : cm_frs k Rf D) (ha : a < k) : cm_frs k Rf (cm_up D a x y) := fun b h1 h2 => ⟨(h b h1 h2).1, (by
  show (if b = a then _ else D b) = _
  rw [if_neg (by omega)]
  exact (h b h1 h2).2)⟩
theorem K_at (ha : a < k) : cm_Kk L k a = cm_K0 L a := if_pos (Or.inl ha)
theorem K_s (hk : k < 634) : cm_ua (cm_Kk L k) k (cm_K0 L k) = cm_Kk L (k + 1) := by
  funext b
  show (if b = k then _ else cm_Kk L k b) = cm_Kk L (k + 1) b
  by_cases h : b = k
  · rw [if_pos h, h, K_at (by omega)]
  · rw [if_neg h]
    unfold cm_Kk
    by_cases h2 : b < k ∨ b = 100000
    · rw [if_pos h2, if_pos (by omega)]
    · rw [if_neg h2, if_neg (by omega)]
theorem ua_ids {α : Type} {F : Nat → α} {g : α} (h : F a = g) : cm_ua F a g = F := by
  funext b
  show (if b = a then g else F b) = F b
  by_cases e : b = a
  · rw [if_pos e, e, h]
  · rw [if_neg e]
theorem mk_s {kd : Nat × Nat} {n : Nat} (hf : cm_frs k Rf D) (hk : k < 634) (he : cm_K0 L k = kd) : cm_mk (cm_cs L k Rf D s) kd n = cm_cs L (k + 1) Rf D (s + n) := by
  show (cm_ua (cm_Kk L k) k kd, cm_ua Rf k (fun _ => 400000), cm_ua D k (fun _ => 0), cm_ua cm_z0 k (fun _ => 0), k + 1, k + 1, s + n) = _
  rw [← he, K_s hk, ua_ids (hf k (Nat.le_refl _) hk).1, ua_ids (hf k (Nat.le_refl _) hk).2, ua_ids (F := cm_z0) (g := fun _ => 0) rfl]
  rfl
theorem na_s {n : Int} {m : Nat} {F : List cm_V → cm_H → cm_R} (hf : cm_frs k Rf D) (hk : k < 634) (he : cm_K0 L k = (t, m)) (hm : n = m) (hn : m ≤ 100000) : cm_na (cm_cs L k Rf D s) t (.inl n :: st) F = F (.inr (.inr k) :: st) (cm_cs L (k + 1) Rf D (s + m)) := by
  subst hm
  show (match (k == k && k.blt 99999) with
    | true => cm_ck (0 ≤ (m : Int) ∧ (m : Int) ≤ 100000) (F (.inr (.inr k) :: st) (cm_mk (cm_cs L k Rf D s) (t, (m : Int).toNat) (m : Int).toNat))
    | false => none) = _
  have e1 : (k == k && k.blt 99999) = true := by
    rw [beq_self_eq_true, Bool.true_and]
    exact Nat.blt_eq.mpr (by omega)
  rw [e1]
  dsimp only
  rw [ck_t (by omega), Int.toNat_natCast, mk_s hf hk he]
theorem nw_s {n : Nat} {F : List cm_V → cm_H → cm_R} (hf : cm_frs k Rf D) (hk : k < 634) (he : cm_K0 L k = (0, ci)) : cm_nw (cm_cs L k Rf D s) ci n st F = F (.inr (.inr k) :: st) (cm_cs L (k + 1) Rf D (s + n)) := by
  show (match (k == k && k.blt 99999) with
    | true => F (.inr (.inr k) :: st) (cm_mk (cm_cs L k Rf D s) (0, ci) n)
    | false => none) = _
  have e1 : (k == k && k.blt 99999) = true := by
    rw [beq_self_eq_true, Bool.true_and]
    exact Nat.blt_eq.mpr (by omega)
  rw [e1]
  dsimp only
  rw [mk_s hf hk he]
theorem kd_s {m : Nat} (ha : a < k) (he : cm_K0 L a = (t, m)) : cm_kd (cm_cs L k Rf D s) a t m = true := by
  show ((cm_Kk L k a).1 == t && (cm_Kk L k a).2 == m) = true
  rw [K_at ha, he]
  dsimp only
  rw [beq_self_eq_true, beq_self_eq_true]
  rfl
theorem pf_s {F : List cm_V → cm_H → cm_R} (ha : a < k) (hv : v < k) (he : cm_K0 L a = (0, ci)) : cm_pf (cm_cs L k Rf D s) 2 ci f (.inr (.inr v) :: .inr (.inr a) :: st) F = F st (cm_cs L k (cm_up Rf a (f : Int) v) D s) := by
  show (match cm_kd (cm_cs L k Rf D s) a 0 ci with
    | true => (match v.blt k with
      | true => F st (cm_cs L k (cm_up Rf a (f : Int) v) D s)
      | false => none)
    | false => none) = _
  rw [kd_s ha he]
  dsimp only
  rw [Nat.blt_eq.mpr hv]
theorem pi_s {x : Int} {F : List cm_V → cm_H → cm_R} (ha : a < k) (he : cm_K0 L a = (0, ci)) : cm_pf (cm_cs L k Rf D s) 0 ci f (.inl x :: .inr (.inr a) :: st) F = F st (cm_cs L k Rf (cm_up D a (f : Int) x) s) := by
  show (match cm_kd (cm_cs L k Rf D s) a 0 ci with
    | true => F st (cm_cs L k Rf (cm_up D a (f : Int) x) s)
    | false => none) = _
  rw [kd_s ha he]
theorem gf_s {F : List cm_V → cm_R} (ha : a < k) (he : cm_K0 L a = (0, ci)) (hv : Rf a (f : Int) < 300000) : cm_gf (cm_cs L k Rf D s) 2 ci f (.inr (.inr a) :: st) F = F (.inr (.inr (Rf a (f : Int))) :: st) := by
  show (match cm_kd (cm_cs L k Rf D s) a 0 ci with
    | true => (match (Rf a (f : Int)).blt 300000 with
      | true => F (.inr (.inr (Rf a (f : Int))) :: st)
      | false => none)
    | false => none) = _
  rw [kd_s ha he]
  dsimp only
  rw [Nat.blt_eq.mpr hv]
theorem own_s {y pc l b c : Nat} {ls : cm_L} (ha : a < k) (hc : (st.drop (c - 1)).head? = some (.inr (.inr a))) (he : cm_K0 L a = (0, ci)) (hw : (c.ble st.length && ((cm_wd (st.drop c)).ble 8 && (cm_wd (st.take c)).ble c)) = true) : cm_cl cm_x y pc l (ci + 100) b c ls st (cm_cs L k Rf D s) = cm_aft y pc (pc + l) ls (st.drop c) (cm_x b 0 (cm_en (st.take c).reverse (cm_mL b)) [] (cm_cs L k Rf D s)) := by
  unfold cm_cl
  have e1 : (ci + 100 == 0) = false := by
    rw [beq_eq_false_iff_ne]
    omega
  have e2 : (ci + 100).blt 100 = false := by
    rw [Bool.eq_false_iff]
    intro h
    have := Nat.blt_eq.mp h
    omega
  have e3 : cm_rc (cm_cs L k Rf D s) (ci + 100 - 100) (st.drop (c - 1)) = true := by
    cases hq : st.drop (c - 1) with
    | nil => rw [hq] at hc; cases hc
    | cons x xs =>
      rw [hq] at hc
      have : x = .inr (.inr a) := Option.some.inj hc
      rw [this]
      show cm_kd _ a 0 (ci + 100 - 100) = true
      rw [Nat.add_sub_cancel]
      exact kd_s ha he
  rw [e1]
  dsimp only
  rw [e2]
  dsimp only
  rw [e3]
  dsimp only
  unfold cm_own
  rw [hw]
  rfl
/-- a row of references: the places of a list -/
theorem rF_n (l : List Nat) (f : Nat) : cm_rF l (f : Int) = l.getD f 400000 := by
  unfold cm_rF
  rw [if_pos (by omega)]
  rfl
theorem u1_rF {l l' : List Nat} {f x : Nat} (h : ∀ n : Nat, l'.getD n 400000 = if n = f then x else l.getD n 400000) : cm_u1 (cm_rF l) (f : Int) x = cm_rF l' := by
  funext j
  show (if j = (f : Int) then x else cm_rF l j) = cm_rF l' j
  by_cases hj : 0 ≤ j
  · obtain ⟨n, rfl⟩ := Int.eq_ofNat_of_zero_le hj
    rw [rF_n, rF_n, h n]
    by_cases e : n = f
    · rw [if_pos (by omega), if_pos e]
    · rw [if_neg (by omega), if_neg e]
  · rw [if_neg (by omega)]
    unfold cm_rF
    rw [if_neg hj, if_neg hj]
theorem u1_ap {l : List Nat} {f x : Nat} (hl : l.length ≤ f) : cm_u1 (cm_rF l) (f : Int) x = cm_rF (l ++ List.replicate (f - l.length) 400000 ++ [x]) := u1_rF (fun n => by
  rw [List.getD_eq_getElem?_getD, List.getD_eq_getElem?_getD, List.append_assoc, List.getElem?_append]
  by_cases h1 : n < l.length
  · rw [if_pos h1, if_neg (by omega)]
  · rw [if_neg h1, List.getElem?_append, List.length_replicate]
    by_cases h2 : n - l.length < f - l.length
    · rw [if_pos h2, if_neg (by omega), List.getElem?_replicate, if_pos h2, List.getElem?_eq_none (by omega)]
      rfl
    · rw [if_neg h2]
      by_cases h3 : n = f
      · rw [if_pos h3, h3, Nat.sub_self]
        rfl
      · rw [if_neg h3, List.getElem?_eq_none (by show 1 ≤ _; omega), List.getElem?_eq_none (by omega)])
theorem rF_e : cm_rF [] = fun _ => 400000 := by
  funext j
  unfold cm_rF
  split
  · rfl
  · rfl
theorem up_uaR {g : Int → Nat} {x : Int} : cm_up (cm_ua Rf a g) a x v = cm_ua Rf a (cm_u1 g x v) := by
  funext b
  show (if b = a then cm_u1 (if a = a then g else Rf a) x v else if b = a then g else Rf b) = if b = a then cm_u1 g x v else Rf b
  rw [if_pos rfl]
  by_cases h : b = a
  · rw [if_pos h, if_pos h]
  · rw [if_neg h, if_neg h, if_neg h]
/-- the first place of a fresh row -/
theorem up_fr {x : Int} (h : Rf a = fun _ => 400000) : cm_up Rf a x v = cm_ua Rf a (cm_u1 (cm_rF []) x v) := by
  rw [← up_uaR, rF_e, ua_ids h]
theorem u1_l {l l2 : List Nat} {f x : Nat} (hl : l.length ≤ f) (e : l ++ List.replicate (f - l.length) 400000 ++ [x] = l2) : cm_u1 (cm_rF l) (f : Int) x = cm_rF l2 := by
  rw [u1_ap hl, e]
