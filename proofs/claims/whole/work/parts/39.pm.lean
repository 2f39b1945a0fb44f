theorem cm_cat_ge (v : cm_V) : 1 ≤ cm_cat v := by
  rcases v with x | x | x
  · exact Nat.le_refl 1
  · exact (by decide : 1 ≤ 2)
  · exact Nat.le_refl 1
theorem cm_wd_ge : ∀ as_ : List cm_V, as_.length ≤ cm_wd as_ := by
  intro as_
  induction as_ with
  | nil => exact Nat.le_refl _
  | cons a t ih =>
    have h1 := cm_cat_ge a
    have h2 : cm_wd (a :: t) = cm_cat a + cm_wd t := rfl
    rw [List.length_cons, h2]
    omega
theorem cm_wd_1 : ∀ as_ : List cm_V, cm_wd as_ ≤ as_.length → ∀ v ∈ as_, cm_cat v = 1 := by
  intro as_
  induction as_ with
  | nil => intro _ v hv; cases hv
  | cons a t ih =>
    intro h v hv
    have h1 := cm_cat_ge a
    have h2 : cm_wd (a :: t) = cm_cat a + cm_wd t := rfl
    have h3 := cm_wd_ge t
    rw [List.length_cons, h2] at h
    rcases List.mem_cons.mp hv with h4 | h4
    · subst h4; omega
    · exact ih (by omega) v h4
theorem cm_sl_len {Z : cm_Z} : ∀ {as_ : List cm_V} {vs : List Value}, cm_sr Z as_ vs → (∀ v ∈ as_, cm_cat v = 1) → (lg_sl vs).length = as_.length := by
  intro as_
  induction as_ with
  | nil => intro vs h _; rw [cm_sr_nil h]; rfl
  | cons a t ih =>
    intro vs h hc
    obtain ⟨v, r, rfl, hv, hs⟩ := cm_sr_cons h
    have h1 : v.category = 1 := (cm_cat_eq hv).trans (hc a List.mem_cons_self)
    have h2 : lg_sl (v :: r) = Slot.val v :: lg_sl r := by
      unfold lg_sl
      rw [List.flatMap_cons, if_neg (by omega)]
      rfl
    rw [h2, List.length_cons, List.length_cons, ih hs (fun w hw => hc w (List.mem_cons_of_mem _ hw))]
theorem cm_args_at {Z : cm_Z} : ∀ {as_ : List cm_V} {vs : List Value} (k : Nat), cm_sr Z as_ vs → (∀ v ∈ as_, cm_cat v = 1) → ∀ (j : Nat) (a : cm_V), as_[j]? = some a → ∃ v, (k + j, v) ∈ lv_args k vs ∧ cm_vr Z v a := by
  intro as_
  induction as_ with
  | nil => intro vs k h _ j a hj; cases hj
  | cons b t ih =>
    intro vs k h hc j a hj
    obtain ⟨v, r, rfl, hv, hs⟩ := cm_sr_cons h
    have h1 : v.category = 1 := (cm_cat_eq hv).trans (hc b List.mem_cons_self)
    have h2 : lv_args k (v :: r) = (k, v) :: lv_args (k + 1) r := by
      show (k, v) :: lv_args (if v.category = 2 then k + 2 else k + 1) r = _
      rw [if_neg (by omega)]
    rw [h2]
    rcases j with _ | j
    · cases hj
      exact ⟨v, List.mem_cons_self, hv⟩
    · obtain ⟨w, h3, h4⟩ := ih (k + 1) hs (fun w hw => hc w (List.mem_cons_of_mem _ hw)) j a hj
      refine ⟨w, List.mem_cons_of_mem _ ?_, h4⟩
      have e1 : k + (j + 1) = k + 1 + j := by omega
      rw [e1]
      exact h3
theorem cm_en_at {as_ : List cm_V} {n i : Nat} {a : cm_V} (h : (cm_en as_ n)[i]? = some (some a)) : as_[i]? = some a := by
  unfold cm_en at h
  by_cases hi : i < (as_.map some).length
  · rw [List.getElem?_append_left hi, List.getElem?_map] at h
    cases h1 : as_[i]? with
    | none => rw [h1] at h; cases h
    | some w => rw [h1] at h; cases h; rfl
  · rw [List.getElem?_append_right (by omega)] at h
    have h2 := List.mem_of_getElem? h
    rw [List.mem_replicate] at h2
    exact absurd h2.2 (by simp)
theorem cm_entry {Z : cm_Z} {as_ : List cm_V} {vs : List Value} {n : Nat} (hs : cm_sr Z as_ vs) (hc : ∀ v ∈ as_, cm_cat v = 1) (hn : as_.length ≤ n) : cm_lr Z (cm_en as_ n) ((lg_sl vs ++ List.replicate (n - (lg_sl vs).length) Slot.unset).toArray) := by
  refine ⟨lv_args 0 vs, by rw [cm_en_len as_ hn]; exact lv_entry vs (by rw [cm_sl_len hs hc]; exact hn), fun i a hi => ?_⟩
  obtain ⟨v, h1, h2⟩ := cm_args_at 0 hs hc i a (cm_en_at hi)
  rw [Nat.zero_add] at h1
  exact ⟨v, h1, h2⟩
theorem cm_vr_x {Z : cm_Z} {q : Nat} : cm_vr Z (.ref q) (.inr (.inr 300000)) := by
  show (if 300000 < 100000 then Value.ref q = .ref (zB Z + 300000) else if 300000 = 100000 then Value.ref q = .ref (zS Z) else if 300000 < 300000 then ∃ k, k < 6 ∧ k % 3 = 300000 - 200000 ∧ Value.ref q = .ref (zK Z k) else ∃ q', Value.ref q = .ref q')
  rw [if_neg (by omega), if_neg (by omega), if_neg (by omega)]
  exact ⟨q, rfl⟩
/-- the tables of handlers, of the two machines -/
def cm_hok (b : Nat) : Bool := match cm_hh b, cm_hs b with
  | [], [] => true
  | [(s, e, t, c)], [(s', e', t', x)] => s == s' && (e == e' && (t == t' && (((c == 18 && x == 0) || (c == 13 && x == 1)) && cm_ow b == 10)))
  | [(0, 12, 15, 18), (0, 12, 19, 13)], [(0, 12, 15, 0), (0, 12, 19, 1)] => cm_ow b == 10
  | _, _ => false
set_option maxRecDepth 100000 in
theorem cm_hok_d : ∀ b, b < 295 → cm_hok b = true := by decide +kernel
theorem cm_hok_inv {b : Nat} (hb : b < 295) : (cm_hh b = [] ∧ cm_hs b = []) ∨ (cm_ow b = 10 ∧ ((∃ s e t c x, cm_hh b = [(s, e, t, c)] ∧ cm_hs b = [(s, e, t, x)] ∧ ((c = 18 ∧ x = 0) ∨ (c = 13 ∧ x = 1))) ∨ (cm_hh b = [(0, 12, 15, 18), (0, 12, 19, 13)] ∧ cm_hs b = [(0, 12, 15, 0), (0, 12, 19, 1)]))) := by
  have h := cm_hok_d b hb
  unfold cm_hok at h
  split at h
  · rename_i h1 h2; exact Or.inl ⟨h1, h2⟩
  · rename_i s e t c s' e' t' x h1 h2
    simp only [Bool.and_eq_true, Bool.or_eq_true, beq_iff_eq] at h
    obtain ⟨rfl, rfl, rfl, h5, h6⟩ := h
    exact Or.inr ⟨h6, Or.inl ⟨_, _, _, _, _, h1, h2, h5⟩⟩
  · rename_i h1 h2
    exact Or.inr ⟨by simpa using h, Or.inr ⟨h1, h2⟩⟩
  · cases h
theorem cm_cl_18 : Jvm.Cond.classLink RL 18 "java/util/NoSuchElementException" ∈ lw_tbl := by decide +kernel
theorem cm_cl_13 : Jvm.Cond.classLink RL 13 "java/lang/IllegalArgumentException" ∈ lw_tbl := by decide +kernel
theorem cm_ca_0 : Jvm.Cond.castable "java/util/NoSuchElementException" "java/util/NoSuchElementException" ∈ lw_tbl := by decide +kernel
theorem cm_ca_1 : Jvm.Cond.castable "java/lang/IllegalArgumentException" "java/lang/IllegalArgumentException" ∈ lw_tbl := by decide +kernel
section PM
variable {Z : cm_Z} {l : Launch} {p : Program} {e : Env} {R : Room} {s : State} {m : MethodId} {args : Array Value} {below : List Frame} {meth : Method} {c : Code} {Q : State → Prop} {CC SS y : Nat} {hf : cm_H}
theorem so_catch (hy : y < 295) (hown : s.vm.findClass (cm_cn (cm_ow y)) = some m.cls) (hcx : cm_cx Z s) (htab : c.exceptionTable.toList = tableOf (cm_hh y)) {pc x t : Nat} {L : cm_L} {h : cm_H} (hn : cm_hn (cm_hs y) pc x = some t) (k : cm_Go Z p l e R s m args below meth c Q CC SS y hf t L [.inr (.inr 300000)] h) : cm_GX Z p l e R s m args below meth c Q CC SS y hf pc L x h := by
  intro H locs cells slots rls rest q ce hH hS hn1 hL hz hc hq h1 h2 h3
  have kk : W p l e R s m args below meth c H locs cells slots Q (F0 m t rls [.ref q]) := k H locs cells slots rls [.ref q] hH hS hn1 hL ⟨cm_vr_x, trivial⟩ hz hc hq
  rcases cm_hok_inv hy with ⟨g1, g2⟩ | ⟨g0, ⟨s0, e0, t0, c0, x0, g1, g2, g3⟩ | ⟨g1, g2⟩⟩
  · rw [g2] at hn; cases hn
  · rw [g2] at hn
    rw [g1] at htab
    unfold cm_hn at hn
    split at hn
    · rename_i h4
      obtain ⟨h5, h6, h7⟩ := h4
      cases hn
      subst h7
      have hown : s.vm.findClass RL = some m.cls := by rw [g0] at hown; exact hown
      rcases g3 with ⟨rfl, rfl⟩ | ⟨rfl, rfl⟩
      · exact vx_catch hown [] ⟨s0, e0, t, 18⟩ [] htab (fun z hz => by cases hz) (by simp [covers, h5, h6]) (by show 18 ≠ 0; omega) (cm_w hcx args cm_cl_18 rfl) (cm_w hcx args cm_ca_0 rfl) h1 h2 h3 kk
      · exact vx_catch hown [] ⟨s0, e0, t, 13⟩ [] htab (fun z hz => by cases hz) (by simp [covers, h5, h6]) (by show 13 ≠ 0; omega) (cm_w hcx args cm_cl_13 rfl) (cm_w hcx args cm_ca_1 rfl) h1 h2 h3 kk
    · cases hn
  · rw [g2] at hn
    rw [g1] at htab
    have hown : s.vm.findClass RL = some m.cls := by rw [g0] at hown; exact hown
    unfold cm_hn at hn
    split at hn
    · rename_i h4
      obtain ⟨h5, h6, h7⟩ := h4
      cases hn
      subst h7
      exact vx_catch hown [] ⟨0, 12, 15, 18⟩ [⟨0, 12, 19, 13⟩] htab (fun z hz => by cases hz) (by simp [covers, h6]) (by show 18 ≠ 0; omega) (cm_w hcx args cm_cl_18 rfl) (cm_w hcx args cm_ca_0 rfl) h1 h2 h3 kk
    · unfold cm_hn at hn
      split at hn
      · rename_i h4
        obtain ⟨h5, h6, h7⟩ := h4
        cases hn
        subst h7
        refine vx_catch hown [⟨0, 12, 15, 18⟩] ⟨0, 12, 19, 13⟩ [] htab (fun z hz => ?_) (by simp [covers, h6]) (by show 13 ≠ 0; omega) (cm_w hcx args cm_cl_13 rfl) (cm_w hcx args cm_ca_1 rfl) h1 h2 h3 kk
        rw [List.mem_singleton] at hz
        subst hz
        exact Or.inr ⟨by show 18 ≠ 0; omega, _, cm_w hcx args cm_cl_18 rfl, hcx.2.2.2.2.2.2.2.2.2.2.2.2⟩
      · cases hn
end PM
theorem cm_cw_n {b : Nat} (h : cm_hh b = []) : cm_cw b = .code (cm_nm b) (cm_by b) (cm_mL b) (cm_rt b) := by
  unfold cm_cw
  rw [h]
theorem cm_cw_h {b : Nat} (h : cm_hh b ≠ []) : cm_cw b = .codeWith (cm_nm b) (cm_by b) (cm_mL b) (cm_rt b) (cm_hh b) := by
  unfold cm_cw
  split
  · rename_i h1; exact absurd h1 h
  · rfl
set_option maxHeartbeats 4000000 in
/-- a method's contract, of its run -/
theorem cm_PM_of {Z : cm_Z} {l : Launch} (hl : l.stackTraces = false) {n : Nat} (IH : cm_P Z l n) : cm_PM Z l n := by
  intro b as_ h r h1 hrun hb hne hlen hwa hhs
  obtain ⟨t1, t2, t3, t4, t5, t6, t7, t8⟩ := cm_mt hb hne
  obtain ⟨hlow1, hlow2⟩ := cm_low b hb
  have hle := cm_run_hle n b 0 _ [] h r h1 hrun
  have hle1 := hle.1
  have hle2 := hle.2
  have hcat : ∀ v ∈ as_, cm_cat v = 1 := fun v hv => cm_wd_1 as_.reverse (by rw [List.length_reverse]; exact hwa) v (List.mem_reverse.mpr hv)
  have hres : (cm_hs b ≠ [] ∨ b = 293) → ∃ v, r = .inl v := fun z => z.elim hhs (fun z => absurd z hne)
  have COMMON : ∀ (p : Program) (e : Env) (s : State) (m : MethodId) (args : Array Value) (below : List Frame) (meth : Method) (c : Code) (R : Room) (Q : State → Prop), cm_FR Z p R s m meth c (h1.2.2.2.2.2.1 - h.2.2.2.2.2.1) (h1.2.2.2.2.2.2 - h.2.2.2.2.2.2) b → cm_EN Z p l e R s m args below meth c Q (h1.2.2.2.2.2.1 - h.2.2.2.2.2.1) (h1.2.2.2.2.2.2 - h.2.2.2.2.2.2) b r h1 → cm_Pc Z h as_ args s → W p l e R s m args below meth c s.heap [] 0 0 Q (entryFrame m args (cm_mL b)) := by
    intro p e s m args below meth c R Q hFR hEN hP
    obtain ⟨⟨vs, rfl, hsr⟩, hH, hcx, hz⟩ := hP
    rw [lg_entry_eq]
    exact IH b 0 _ [] h r h1 hrun hb hres p e R s m _ below meth c Q _ _ hFR hEN s.heap [] 0 0 _ [] hH va_S.rf (cm_en_len as_ (by omega)) (cm_entry hsr hcat (by omega)) trivial (by omega) (by omega) (by omega)
  by_cases hhh : cm_hh b = []
  · have hs0 : cm_hs b = [] := by
      rcases cm_hok_inv hb with ⟨-, g⟩ | ⟨-, ⟨s0, e0, t0, c0, x0, g1, -⟩ | ⟨g1, -⟩⟩
      · exact g
      · rw [g1] at hhh; cases hhh
      · rw [g1] at hhh; cases hhh
    refine vx_ofW (cc := cm_by b) (maxL := cm_mL b) (ret := cm_rt b) (ws' := []) t5 (by rw [cm_cw_n hhh]) ?_
    intro p e s m args below meth c s₁ B hml ht hP
    refine COMMON p e s m args below meth c _ _ ⟨B.exec, B.bytes, hml, ?_, hP.2.2.1, ?_, Nat.le_refl _, Nat.le_refl _, Nat.le_refl _, Nat.le_refl _⟩ ⟨?_, ?_, ?_, ?_⟩ hP
    · rw [← t4]; exact findClass_of_methodNamed B.named
    · intro hi; rw [(name_of_methodNamed B.named B.method).1]; exact hi
    · intro v hv H locs cells slots rls rst pc hH hS g1 g2 hq
      exact so_ret B.exec B.bytes B.notSynchronized B.returns hv hH hS g1 g2 hq
    · intro x hx pc L
      exact so_exc B.notSynchronized ht hx
    · intro x hx pc i L h0 he hth
      exact so_throw B.exec B.bytes hml (by rw [← t4]; exact findClass_of_methodNamed B.named) hP.2.2.1 hl B.notSynchronized (fun _ => ht) (Nat.le_refl _) hlow2 (Nat.le_refl _) (Nat.le_refl _) hth hx he
    · intro pc x t L h0 hn _
      rw [hs0] at hn
      cases hn
  · have hs0 : cm_hs b ≠ [] := by
      rcases cm_hok_inv hb with ⟨g, -⟩ | ⟨-, ⟨s0, e0, t0, c0, x0, -, g2, -⟩ | ⟨-, g2⟩⟩
      · exact absurd g hhh
      · rw [g2]; intro z; cases z
      · rw [g2]; intro z; cases z
    obtain ⟨v0, hv0⟩ := hhs hs0
    refine vx_ofWH (cc := cm_by b) (maxL := cm_mL b) (ret := cm_rt b) (hh := cm_hh b) (ws' := []) t5 (by rw [cm_cw_h hhh]) ?_
    intro p e s m args below meth c s₁ B hml hP
    have htab : c.exceptionTable.toList = tableOf (cm_hh b) := vx_table (x := cm_nm b) B (bytes := cm_by b) (maxL' := cm_mL b) (ret' := cm_rt b) (atoms_spec (ws := [cm_cw b]) B.pre _ (by rw [cm_cw_h hhh]; exact List.mem_cons_self))
    have hown : s.vm.findClass (cm_cn (cm_ow b)) = some m.cls := by rw [← t4]; exact findClass_of_methodNamed B.named
    refine COMMON p e s m args below meth c _ _ ⟨B.exec, B.bytes, hml, hown, hP.2.2.1, ?_, Nat.le_refl _, Nat.le_refl _, Nat.le_refl _, Nat.le_refl _⟩ ⟨?_, ?_, ?_, ?_⟩ hP
    · intro hi; rw [(name_of_methodNamed B.named B.method).1]; exact hi
    · intro v hv H locs cells slots rls rst pc hH hS g1 g2 hq
      exact so_ret B.exec B.bytes B.notSynchronized B.returns hv hH hS g1 g2 hq
    · intro x hx pc L
      rw [hv0] at hx; cases hx
    · intro x hx pc i L h0 he hth
      rw [hv0] at hx; cases hx
    · intro pc x t L h0 hn k
      exact so_catch hb hown hP.2.2.1 htab hn k
/-- every run of the plain machine is one of the real one -/
theorem cm_all {Z : cm_Z} {l : Launch} (hl : l.stackTraces = false) (hS0 : cm_HS Z l) : ∀ n, cm_P Z l n := by
  intro n
  induction n with
  | zero => intro y pc L st h r hf hr; cases hr
  | succ n ih => exact cm_step hS0 ih (cm_PM_of hl ih)
