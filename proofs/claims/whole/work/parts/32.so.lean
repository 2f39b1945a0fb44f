theorem cm_hts {Z : cm_Z} {s : State} (hcx : cm_cx Z s) (args : Array Value) : ∀ w ∈ lw_tbl.filter cm_two, w.before args s = true := fun w hw => by
  obtain ⟨h1, h2⟩ := List.mem_filter.mp hw
  exact cm_two_at (State.WarmedH.refl s) h2 (hcx.1 w h1 h2)
theorem cm_w {Z : cm_Z} {s : State} (hcx : cm_cx Z s) (args : Array Value) {w : Cond} (h : w ∈ lw_tbl) (h2 : cm_two w = true) : w.before args s = true := cm_hts hcx args w (List.mem_filter.mpr ⟨h, h2⟩)
theorem cm_two_lay (C : String) (T : u_T) (N : Nat) : ∀ w ∈ u_ws C T N, cm_two w = true := by
  intro w hw
  obtain ⟨k, -, rfl⟩ := List.mem_map.mp hw
  unfold u_lay
  split <;> rfl
theorem cm_lays {ci : Nat} {C : String} {T : u_T} {N : Nat} (hc : cm_vw[ci]? = some (C, T, N)) : ∀ w ∈ u_ws C T N, w ∈ lw_tbl.filter cm_two := by
  have h1 : ci < 10 := (List.getElem?_eq_some_iff.mp hc).1
  have h2 := cm_vw_in ci h1
  rw [hc] at h2
  exact fun w hw => List.mem_filter.mpr ⟨h2 w hw, cm_two_lay C T N w hw⟩
theorem cm_vw_ty {ci : Nat} {q : vw_C} (hc : cm_vw[ci]? = some q) : (∃ ty : Nat → FieldType, (∀ k, k < q.2.2 → parseFieldDescriptor (q.2.1 k).2.2.1 = some (ty k)) ∧ ∀ k, k < q.2.2 → cm_tc (q.2.1 k).2.2.1 = 2 → ∀ a, narrow (ty k) (.ref a) = .ref a ∧ fits (ty k) (.ref a) = true) ∧ ∀ a, a < q.2.2 → ∀ b, b < q.2.2 → a ≠ b → (q.2.1 a).2.1 ≠ (q.2.1 b).2.1 := by
  have h1 : ci < 10 := (List.getElem?_eq_some_iff.mp hc).1
  have key : ∀ {N : Nat} {T : u_T} {ty : Nat → FieldType}, (∀ k, k < N → parseFieldDescriptor (T k).2.2.1 = some (ty k)) → (∀ k, k < N → cm_tc (T k).2.2.1 = 2 → (match ty k with
      | .object _ => true
      | .array _ => true
      | _ => false) = true) → ∃ ty : Nat → FieldType, (∀ k, k < N → parseFieldDescriptor (T k).2.2.1 = some (ty k)) ∧ ∀ k, k < N → cm_tc (T k).2.2.1 = 2 → ∀ a, narrow (ty k) (.ref a) = .ref a ∧ fits (ty k) (.ref a) = true := by
    intro N T ty h1 h2
    refine ⟨ty, h1, fun k hk ht a => ?_⟩
    have h3 := h2 k hk ht
    cases e : ty k <;> rw [e] at h3 <;> first | exact ⟨rfl, rfl⟩ | cases h3
  rcases ci with _ | _ | _ | _ | _ | _ | _ | _ | _ | _ | ci
  · cases hc; exact ⟨key tyX0_ok (by decide +kernel), nmX0⟩
  · cases hc; exact ⟨key tyX1_ok (by decide +kernel), nmX1⟩
  · cases hc; exact ⟨key tyX2_ok (by decide +kernel), nmX2⟩
  · cases hc; exact ⟨key tyX3_ok (by decide +kernel), nmX3⟩
  · cases hc; exact ⟨key tyX4_ok (by decide +kernel), nmX4⟩
  · cases hc; exact ⟨key tyX5_ok (by decide +kernel), nmX5⟩
  · cases hc; exact ⟨key tyX6_ok (by decide +kernel), nmX6⟩
  · cases hc; exact ⟨key tyX7_ok (by decide +kernel), nmX7⟩
  · cases hc; exact ⟨key tyX8_ok (by decide +kernel), nmX8⟩
  · cases hc; exact ⟨key tyX9_ok (by decide +kernel), nmX9⟩
  · omega
theorem cm_tc_0 {d : String} (h : cm_tc d = 0) : d = "I" := by
  unfold cm_tc at h
  split at h
  · assumption
  · split at h <;> omega
theorem cm_tc_1 {d : String} (h : cm_tc d = 1) : d = "Z" := by
  unfold cm_tc at h
  split at h
  · omega
  · split at h
    · assumption
    · omega
theorem cm_kdI {h : cm_H} {a t n : Nat} (hk : cm_kd h a t n = true) : h.1 a = (t, n) := by
  unfold cm_kd at hk
  simp only [Bool.and_eq_true, beq_iff_eq] at hk
  exact Prod.ext hk.1 hk.2
/-- what lies at a place of a kind -/
theorem cm_ce_o {Z : cm_Z} {h : cm_H} {a ci : Nat} {e : va_E} (hce : cm_ce Z h a e) (hk : h.1 a = (0, ci)) : ∃ fs, e = .inr (ci, fs) := by
  rcases e with ⟨cA, n, f | f | f | f | f⟩ | ⟨ci', fs⟩
  · rcases hce.1 with ⟨-, h1⟩ | ⟨-, h1⟩ <;> rw [hk] at h1 <;> cases h1
  · have h1 := hce.2.1; rw [hk] at h1; cases h1
  · exact hce.elim
  · exact hce.elim
  · have h1 := hce.2.1; rw [hk] at h1; cases h1
  · have h1 := hce.1; rw [hk] at h1; cases h1; exact ⟨fs, rfl⟩
theorem cm_ce_i {Z : cm_Z} {h : cm_H} {a n : Nat} {e : va_E} (hce : cm_ce Z h a e) (hk : h.1 a = (1, n)) : ∃ f, e = .inl (zI Z, n, .inl f) ∧ ∀ j, j < n → (f j).toInt = h.2.2.1 a (j : Int) := by
  rcases e with ⟨cA, n', f | f | f | f | f⟩ | ⟨ci', fs⟩
  · rcases hce.1 with ⟨h0, h1⟩ | ⟨-, h1⟩
    · rw [hk] at h1; cases h1; rw [h0]; exact ⟨f, rfl, hce.2⟩
    · rw [hk] at h1; cases h1
  · have h1 := hce.2.1; rw [hk] at h1; cases h1
  · exact hce.elim
  · exact hce.elim
  · have h1 := hce.2.1; rw [hk] at h1; cases h1
  · have h1 := hce.1; rw [hk] at h1; cases h1
theorem cm_ce_z {Z : cm_Z} {h : cm_H} {a n : Nat} {e : va_E} (hce : cm_ce Z h a e) (hk : h.1 a = (2, n)) : ∃ f, e = .inl (zO Z, n, .inl f) ∧ ∀ j, j < n → (f j).toInt = h.2.2.1 a (j : Int) := by
  rcases e with ⟨cA, n', f | f | f | f | f⟩ | ⟨ci', fs⟩
  · rcases hce.1 with ⟨-, h1⟩ | ⟨h0, h1⟩
    · rw [hk] at h1; cases h1
    · rw [hk] at h1; cases h1; rw [h0]; exact ⟨f, rfl, hce.2⟩
  · have h1 := hce.2.1; rw [hk] at h1; cases h1
  · exact hce.elim
  · exact hce.elim
  · have h1 := hce.2.1; rw [hk] at h1; cases h1
  · have h1 := hce.1; rw [hk] at h1; cases h1
theorem cm_ce_j {Z : cm_Z} {h : cm_H} {a n : Nat} {e : va_E} (hce : cm_ce Z h a e) (hk : h.1 a = (3, n)) : ∃ f, e = .inl (zJ Z, n, .inr (.inl f)) ∧ ∀ j, j < n → f j = h.2.2.2.1 a (j : Int) := by
  rcases e with ⟨cA, n', f | f | f | f | f⟩ | ⟨ci', fs⟩
  · rcases hce.1 with ⟨-, h1⟩ | ⟨-, h1⟩ <;> rw [hk] at h1 <;> cases h1
  · obtain ⟨h0, h1, h2⟩ := hce; rw [hk] at h1; cases h1; rw [h0]; exact ⟨f, rfl, h2⟩
  · exact hce.elim
  · exact hce.elim
  · have h1 := hce.2.1; rw [hk] at h1; cases h1
  · have h1 := hce.1; rw [hk] at h1; cases h1
theorem cm_ce_r {Z : cm_Z} {h : cm_H} {a n : Nat} {e : va_E} (hce : cm_ce Z h a e) (hk : h.1 a = (4, n)) : ∃ f, e = .inl (zR Z, n, .inr (.inr (.inr (.inr f)))) ∧ ∀ j, j < n → h.2.1 a (j : Int) < 300000 → h.2.1 a (j : Int) < 100000 ∧ f j = some (zB Z + h.2.1 a (j : Int)) := by
  rcases e with ⟨cA, n', f | f | f | f | f⟩ | ⟨ci', fs⟩
  · rcases hce.1 with ⟨-, h1⟩ | ⟨-, h1⟩ <;> rw [hk] at h1 <;> cases h1
  · have h1 := hce.2.1; rw [hk] at h1; cases h1
  · exact hce.elim
  · exact hce.elim
  · obtain ⟨h0, h1, h2⟩ := hce; rw [hk] at h1; cases h1; rw [h0]; exact ⟨f, rfl, h2⟩
  · have h1 := hce.1; rw [hk] at h1; cases h1
theorem cm_ce_same {Z : cm_Z} {h h1 : cm_H} {k : Nat} {e : va_E} (e1 : h1.1 k = h.1 k) (e2 : h1.2.1 k = h.2.1 k) (e3 : h1.2.2.1 k = h.2.2.1 k) (e4 : h1.2.2.2.1 k = h.2.2.2.1 k) (hc : cm_ce Z h k e) : cm_ce Z h1 k e := by
  rcases e with ⟨cA, n', f | f | f | f | f⟩ | ⟨ci', fs⟩
  · exact ⟨by rw [e1]; exact hc.1, fun j hj => by rw [e3]; exact hc.2 j hj⟩
  · exact ⟨hc.1, by rw [e1]; exact hc.2.1, fun j hj => by rw [e4]; exact hc.2.2 j hj⟩
  · exact hc.elim
  · exact hc.elim
  · exact ⟨hc.1, by rw [e1]; exact hc.2.1, fun j hj => by rw [e2]; exact hc.2.2 j hj⟩
  · obtain ⟨h2, q, h3, h4, h5⟩ := hc
    refine ⟨by rw [e1]; exact h2, q, h3, h4, fun j hj => ?_⟩
    have := h5 j hj
    unfold cm_fr at this ⊢
    rw [e2, e3]
    exact this
/-- one cell has changed -/
theorem cm_hr_up {Z : cm_Z} {h h1 : cm_H} {H1 : Heap} {ws : va_W} {a : Nat} {e' : va_E} (hP1 : va_P (zD Z) cm_vw (ws.set a (zB Z + a, e')) H1) (hD1 : va_D (zA Z) (ws.set a (zB Z + a, e'))) (hwl : ws.length = h.2.2.2.2.1) (h5 : h.2.2.2.2.1 ≤ 100000) (h6 : h.2.2.2.2.1 ≤ h.2.2.2.2.2.1)
    (hcell : ∀ k, k < h.2.2.2.2.1 → ∃ e, ws[k]? = some (zB Z + k, e) ∧ cm_ce Z h k e) (hout : ∀ a, h.2.2.2.2.1 ≤ a → a ≠ 100000 → h.1 a = (9, 0)) (hscr : h.1 100000 = (1, zL Z)) (hxs : (∀ j, j < zL Z → (zX Z j).toInt = h.2.2.1 100000 (j : Int)) ∧ ∀ a, (h.1 a).1 = 1 → (h.1 a).2 < 2147483648)
    (ha : a < h.2.2.2.2.1) (hk : h1.1 = h.1) (hn : h1.2.2.2.2 = h.2.2.2.2) (he' : cm_ce Z h1 a e') (ho : ∀ k, k ≠ a → h1.2.1 k = h.2.1 k ∧ h1.2.2.1 k = h.2.2.1 k ∧ h1.2.2.2.1 k = h.2.2.2.1 k) : cm_hr Z h1 H1 := by
  refine ⟨_, hP1, hD1, by rw [List.length_set, hwl, hn], by rw [hn]; exact h5, by rw [hn]; exact h6, ?_, ?_, by rw [hk]; exact hscr, ?_⟩
  · rw [hn]
    intro k hkl
    by_cases hka : k = a
    · subst hka
      exact ⟨e', by rw [List.getElem?_set]; simp [hwl, hkl], he'⟩
    · obtain ⟨e, h7, h8⟩ := hcell k hkl
      refine ⟨e, by rw [List.getElem?_set_ne (Ne.symm hka)]; exact h7, ?_⟩
      obtain ⟨o1, o2, o3⟩ := ho k hka
      exact cm_ce_same (by rw [hk]) o1 o2 o3 h8
  · rw [hn, hk]
    exact hout
  · refine ⟨fun j hj => ?_, by rw [hk]; exact hxs.2⟩
    rw [(ho 100000 (by omega)).2.1]
    exact hxs.1 j hj
theorem cm_lt_of {h : cm_H} {a t n : Nat} (hout : ∀ a, h.2.2.2.2.1 ≤ a → a ≠ 100000 → h.1 a = (9, 0)) (hk : h.1 a = (t, n)) (ht : t ≠ 9) (ha : a ≠ 100000) : a < h.2.2.2.2.1 := by
  rcases Nat.lt_or_ge a h.2.2.2.2.1 with h1 | h1
  · exact h1
  · have := hout a h1 ha
    rw [hk] at this
    cases this
    exact absurd rfl ht
theorem cm_fl_inv {y i t ci f : Nat} (h : cm_fls.any (fun q => q.1 == cm_ow y && (q.2.1 == i && (q.2.2.2.1 == t && (q.2.2.2.2.1 == ci && q.2.2.2.2.2.1 == f)))) = true) : ∃ (C : String) (T : u_T) (N : Nat), cm_vw[ci]? = some (C, T, N) ∧ f < N ∧ cm_tc (T f).2.2.1 = t ∧ (Jvm.Cond.fieldLink (cm_cn (cm_ow y)) i (T f).1 (T f).2.1 (T f).2.2.1 ∈ lw_tbl ∨ (t = 2 ∧ Jvm.Cond.fieldLinkNest (cm_cn (cm_ow y)) i (T f).1 (T f).2.1 (T f).2.2.1 "OnceVolume" ∈ lw_tbl)) := by
  obtain ⟨⟨q1, q2, q3, q4, q5, q6, q7⟩, hm, hq⟩ := List.any_eq_true.mp h
  simp only [Bool.and_eq_true, beq_iff_eq] at hq
  obtain ⟨rfl, rfl, rfl, rfl, rfl⟩ := hq
  have h1 := List.all_eq_true.mp cm_fls_ok _ hm
  unfold cm_okf at h1
  simp only at h1
  cases e : cm_vw[q5]? with
  | none => rw [e] at h1; cases h1
  | some z =>
    obtain ⟨C, T, N⟩ := z
    rw [e] at h1
    simp only [Bool.and_eq_true, Bool.or_eq_true, decide_eq_true_eq] at h1
    obtain ⟨⟨⟨h2, h3⟩, h4⟩, h5⟩ := h1
    refine ⟨C, T, N, rfl, h2, h3, ?_⟩
    rcases q3 with _ | q3
    · exact Or.inl (List.mem_of_getElem? h4)
    · refine Or.inr ⟨?_, List.mem_of_getElem? h4⟩
      rcases h5 with h5 | h5
      · omega
      · exact h5
section SOH
variable {Z : cm_Z} {p : Program} {l : Launch} {e : Env} {R : Room} {s : State} {m : MethodId} {args : Array Value} {below : List Frame} {meth : Method} {c : Code} {Q : State → Prop} {CC SS y pc : Nat} {hf h : cm_H} {L : cm_L} {st : List cm_V}
theorem so_getI (hx : p.tables.exec = Jvm.exec) (hb : c.code = cm_by y) (hown : s.vm.findClass (cm_cn (cm_ow y)) = some m.cls) (hcx : cm_cx Z s) {i t ci f a : Nat} (ht : t ≠ 2) (hfl : cm_fls.any (fun q => q.1 == cm_ow y && (q.2.1 == i && (q.2.2.2.1 == t && (q.2.2.2.2.1 == ci && q.2.2.2.2.2.1 == f)))) = true) (hk : cm_kd h a 0 ci = true) (hd : decode (cm_by y) pc = .ok (.getfield i, 3)) (k : cm_Go Z p l e R s m args below meth c Q CC SS y hf (pc + 3) L (.inl (h.2.2.1 a (f : Int)) :: st) h) : cm_Go Z p l e R s m args below meth c Q CC SS y hf pc L (.inr (.inr a) :: st) h := by
  intro H locs cells slots rls rst hH hS hn hL hs hz hc hq
  have hk := cm_kdI hk
  obtain ⟨q, r, rfl, hv, hs_1⟩ := cm_sr_r hs
  obtain ⟨C, T, N, hvw, hfN, htc, hln⟩ := cm_fl_inv hfl
  have hln : Jvm.Cond.fieldLink (cm_cn (cm_ow y)) i (T f).1 (T f).2.1 (T f).2.2.1 ∈ lw_tbl := by
    rcases hln with h1 | ⟨h1, -⟩
    · exact h1
    · exact absurd h1 ht
  have hH0 := hH
  obtain ⟨ws, hP, hD, hwl, h5, h6, hcell, hout, hscr, hxs⟩ := hH
  have ha : a < h.2.2.2.2.1 := cm_lt_of hout hk (by omega) (fun e => by subst e; rw [hscr] at hk; cases hk)
  have e1 := cm_vr_c hv (by omega)
  cases e1
  obtain ⟨e0, he, hce⟩ := hcell a ha
  obtain ⟨fs, rfl⟩ := cm_ce_o hce hk
  obtain ⟨-, q, hq1, hq2, hq3⟩ := hce
  cases hvw.symm.trans hq1
  have h7 := hq3 f hfN
  unfold cm_fr at h7
  rw [if_neg (by rw [htc]; exact ht)] at h7
  obtain ⟨x, hx1, hx2⟩ := h7
  exact va_get hx hb (cm_hts hcx args) (cm_lays hvw) hown hcx.2.2.1 hP a he hvw f hfN (cm_w hcx args hln rfl) (fun _ z => z) hx1 hd (k H locs cells slots rls _ hH0 hS hn hL ⟨⟨x, rfl, hx2⟩, hs_1⟩ hz hc hq)
theorem so_getR (hx : p.tables.exec = Jvm.exec) (hb : c.code = cm_by y) (hown : s.vm.findClass (cm_cn (cm_ow y)) = some m.cls) (hcx : cm_cx Z s) {i ci f a : Nat} (hlt : h.2.1 a (f : Int) < 300000) (hfl : cm_fls.any (fun q => q.1 == cm_ow y && (q.2.1 == i && (q.2.2.2.1 == 2 && (q.2.2.2.2.1 == ci && q.2.2.2.2.2.1 == f)))) = true) (hk : cm_kd h a 0 ci = true) (hd : decode (cm_by y) pc = .ok (.getfield i, 3)) (k : cm_Go Z p l e R s m args below meth c Q CC SS y hf (pc + 3) L (.inr (.inr (h.2.1 a (f : Int))) :: st) h) : cm_Go Z p l e R s m args below meth c Q CC SS y hf pc L (.inr (.inr a) :: st) h := by
  intro H locs cells slots rls rst hH hS hn hL hs hz hc hq
  have hk := cm_kdI hk
  obtain ⟨q, r, rfl, hv, hs_1⟩ := cm_sr_r hs
  obtain ⟨C, T, N, hvw, hfN, htc, hln⟩ := cm_fl_inv hfl
  have hH0 := hH
  obtain ⟨ws, hP, hD, hwl, h5, h6, hcell, hout, hscr, hxs⟩ := hH
  have ha : a < h.2.2.2.2.1 := cm_lt_of hout hk (by omega) (fun e => by subst e; rw [hscr] at hk; cases hk)
  have e1 := cm_vr_c hv (by omega)
  cases e1
  obtain ⟨e0, he, hce⟩ := hcell a ha
  obtain ⟨fs, rfl⟩ := cm_ce_o hce hk
  obtain ⟨-, q, hq1, hq2, hq3⟩ := hce
  cases hvw.symm.trans hq1
  have h7 := hq3 f hfN
  unfold cm_fr at h7
  rw [if_pos htc] at h7
  obtain ⟨hsm, hx1⟩ := h7 hlt
  have kk := k H locs cells slots rls (.ref (zB Z + h.2.1 a (f : Int)) :: r) hH0 hS hn hL ⟨cm_vr_cI hsm, hs_1⟩ hz hc hq
  rcases hln with hln | ⟨-, hln⟩
  · exact va_get hx hb (cm_hts hcx args) (cm_lays hvw) hown hcx.2.2.1 hP a he hvw f hfN (cm_w hcx args hln rfl) (fun _ z => z) hx1 hd kk
  · exact va_getN hx hb (cm_hts hcx args) (cm_lays hvw) hown hcx.2.2.1 hP a he hvw f hfN (cm_w hcx args hln rfl) (fun _ z => z) hx1 hd kk
theorem cm_pf_inv {y i t ci f : Nat} (h : (cm_fls.any (fun q => q.1 == cm_ow y && (q.2.1 == i && (q.2.2.1 == 0 && (q.2.2.2.1 == t && (q.2.2.2.2.1 == ci && q.2.2.2.2.2.1 == f))))) && cm_okpf y ci f) = true) : ∃ (C : String) (T : u_T) (N : Nat), cm_vw[ci]? = some (C, T, N) ∧ f < N ∧ cm_tc (T f).2.2.1 = t ∧ Jvm.Cond.fieldLink (cm_cn (cm_ow y)) i (T f).1 (T f).2.1 (T f).2.2.1 ∈ lw_tbl ∧ ((T f).2.2.2 = false ∨ ((T f).2.2.2 = true ∧ (cm_nm y).name = "<init>" ∧ (T f).1 = cm_cn (cm_ow y))) := by
  simp only [Bool.and_eq_true] at h
  obtain ⟨h, hpf⟩ := h
  obtain ⟨⟨q1, q2, q3, q4, q5, q6, q7⟩, hm, hq⟩ := List.any_eq_true.mp h
  simp only [Bool.and_eq_true, beq_iff_eq] at hq
  obtain ⟨rfl, rfl, rfl, rfl, rfl, rfl⟩ := hq
  have h1 := List.all_eq_true.mp cm_fls_ok _ hm
  unfold cm_okf at h1
  unfold cm_okpf at hpf
  simp only at h1
  cases e : cm_vw[q5]? with
  | none => rw [e] at h1; cases h1
  | some z =>
    obtain ⟨C, T, N⟩ := z
    rw [e] at h1 hpf
    simp only [Bool.and_eq_true, Bool.or_eq_true, decide_eq_true_eq] at h1
    obtain ⟨⟨⟨h2, h3⟩, h4⟩, h5⟩ := h1
    refine ⟨C, T, N, rfl, h2, h3, List.mem_of_getElem? h4, ?_⟩
    simp only [Bool.or_eq_true, Bool.and_eq_true, Bool.not_eq_true', decide_eq_true_eq] at hpf
    cases hfin : (T q6).2.2.2 with
    | false => exact Or.inl rfl
    | true =>
      rcases hpf with h6 | h6
      · rw [hfin] at h6; cases h6
      · exact Or.inr ⟨rfl, h6⟩
theorem cm_up_ne {α : Type} {f : Nat → Int → α} {a b : Nat} {i : Int} {v : α} (h : b ≠ a) : cm_up f a i v b = f b := by unfold cm_up; rw [if_neg h]
theorem cm_up_eq {α : Type} {f : Nat → Int → α} {a : Nat} {i : Int} {v : α} : cm_up f a i v a = cm_u1 (f a) i v := by unfold cm_up; rw [if_pos rfl]
theorem so_put (hx : p.tables.exec = Jvm.exec) (hb : c.code = cm_by y) (hown : s.vm.findClass (cm_cn (cm_ow y)) = some m.cls) (hcx : cm_cx Z s) (hin : (cm_nm y).name = "<init>" → meth.name = "<init>") {i t ci f a : Nat} {v : cm_V} {h1 : cm_H} (hfl : (cm_fls.any (fun q => q.1 == cm_ow y && (q.2.1 == i && (q.2.2.1 == 0 && (q.2.2.2.1 == t && (q.2.2.2.2.1 == ci && q.2.2.2.2.2.1 == f))))) && cm_okpf y ci f) = true) (hk : cm_kd h a 0 ci = true)
    (hv : (∃ x, v = .inl x ∧ (t = 0 ∨ (t = 1 ∧ (x = 0 ∨ x = 1))) ∧ h1 = cm_sI h a (f : Int) x) ∨ (∃ n, v = .inr (.inr n) ∧ t = 2 ∧ n < h.2.2.2.2.1 ∧ h1 = cm_sR h a (f : Int) n)) (hd : decode (cm_by y) pc = .ok (.putfield i, 3)) (k : cm_Go Z p l e R s m args below meth c Q CC SS y hf (pc + 3) L st h1) : cm_Go Z p l e R s m args below meth c Q CC SS y hf pc L (v :: .inr (.inr a) :: st) h := by
  intro H locs cells slots rls rst hH hS hn hL hs hz hc hq
  have hk := cm_kdI hk
  obtain ⟨rv, r, rfl, hrv, hs_1⟩ := cm_sr_cons hs
  obtain ⟨q, r, rfl, hvq, hs_2⟩ := cm_sr_r hs_1
  obtain ⟨C, T, N, hvw, hfN, htc, hln, hfin⟩ := cm_pf_inv hfl
  obtain ⟨⟨ty, hty, htr⟩, hnm⟩ := cm_vw_ty hvw
  obtain ⟨ws, hP, hD, hwl, h5, h6, hcell, hout, hscr, hxs⟩ := hH
  have ha : a < h.2.2.2.2.1 := cm_lt_of hout hk (by omega) (fun e => by subst e; rw [hscr] at hk; cases hk)
  have e1 := cm_vr_c hvq (by omega)
  cases e1
  obtain ⟨e0, he, hce⟩ := hcell a ha
  obtain ⟨fs, rfl⟩ := cm_ce_o hce hk
  obtain ⟨-, q, hq1, hq2, hq3⟩ := hce
  cases hvw.symm.trans hq1
  have hpd := hty f hfN
  have hfits : narrow (ty f) rv = rv ∧ fits (ty f) rv = true := by
    rcases hv with ⟨x, rfl, hx1, -⟩ | ⟨n, rfl, hx1, -, -⟩
    · obtain ⟨j, rfl, hj⟩ := cm_vr_i hrv
      rcases hx1 with hx1 | ⟨hx1, hx2⟩
      · have hd1 := cm_tc_0 (htc.trans hx1)
        have hpd' := hpd
        simp only at hpd'
        rw [hd1] at hpd'
        have : ty f = .int := Option.some.inj (hpd'.symm.trans (show parseFieldDescriptor "I" = some .int by decide +kernel))
        rw [this]
        exact ⟨rfl, rfl⟩
      · have hd1 := cm_tc_1 (htc.trans hx1)
        have hpd' := hpd
        simp only at hpd'
        rw [hd1] at hpd'
        have : ty f = .boolean := Option.some.inj (hpd'.symm.trans (show parseFieldDescriptor "Z" = some .boolean by decide +kernel))
        rw [this]
        have hj2 : j = 0 ∨ j = 1 := by
          rcases hx2 with hx2 | hx2
          · exact Or.inl (by rw [cm_ieq, hj, hx2]; rfl)
          · exact Or.inr (by rw [cm_ieq, hj, hx2]; rfl)
        rcases hj2 with rfl | rfl <;> exact ⟨rfl, rfl⟩
    · obtain ⟨z, rfl⟩ := cm_vr_r hrv
      exact htr f hfN (htc.trans hx1) z
  have hfl2 : f < fs.length := by rw [hq2]; exact hfN
  have hkn : h1.1 = h.1 ∧ h1.2.2.2.2 = h.2.2.2.2 ∧ (∀ k, k ≠ a → h1.2.1 k = h.2.1 k ∧ h1.2.2.1 k = h.2.2.1 k ∧ h1.2.2.2.1 k = h.2.2.2.1 k) := by
    rcases hv with ⟨x, -, -, rfl⟩ | ⟨n, -, -, -, rfl⟩
    · exact ⟨rfl, rfl, fun k hka => ⟨rfl, cm_up_ne hka, rfl⟩⟩
    · exact ⟨rfl, rfl, fun k hka => ⟨cm_up_ne hka, rfl, rfl⟩⟩
  have hce1 : cm_ce Z h1 a (.inr (ci, fs.set f rv)) := by
    refine ⟨by rw [hkn.1]; exact hk, (C, T, N), hvw, by rw [List.length_set]; exact hq2, fun j hj => ?_⟩
    have h8 := hq3 j hj
    unfold cm_fr at h8 ⊢
    by_cases hjf : j = f
    · subst hjf
      rw [htc] at h8 ⊢
      rcases hv with ⟨x, rfl, hx1, rfl⟩ | ⟨n, rfl, hx1, hn1, rfl⟩
      · rw [if_neg (by omega)]
        obtain ⟨jj, rfl, hjj⟩ := cm_vr_i hrv
        refine ⟨jj, by rw [List.getElem?_set]; simp [hfl2], ?_⟩
        show jj.toInt = cm_up h.2.2.1 a (j : Int) x a (j : Int)
        rw [cm_up_eq]
        unfold cm_u1
        rw [if_pos rfl]
        exact hjj
      · rw [if_pos hx1]
        intro _
        have e9 : (cm_sR h a (j : Int) n).2.1 a (j : Int) = n := by
          show cm_up h.2.1 a (j : Int) n a (j : Int) = n
          rw [cm_up_eq]
          unfold cm_u1
          rw [if_pos rfl]
        rw [e9]
        have h10 := cm_vr_c hrv (by omega)
        refine ⟨by omega, ?_⟩
        rw [List.getElem?_set]
        simp [hfl2, h10]
    · have e9 : (fs.set f rv)[j]? = fs[j]? := List.getElem?_set_ne (Ne.symm hjf)
      have e10 : h1.2.1 a (j : Int) = h.2.1 a (j : Int) ∧ h1.2.2.1 a (j : Int) = h.2.2.1 a (j : Int) := by
        have hji : ¬ (j : Int) = (f : Int) := by omega
        rcases hv with ⟨x, -, -, rfl⟩ | ⟨n, -, -, -, rfl⟩
        · refine ⟨rfl, ?_⟩
          show cm_up h.2.2.1 a (f : Int) x a (j : Int) = _
          rw [cm_up_eq]; unfold cm_u1; rw [if_neg hji]
        · refine ⟨?_, rfl⟩
          show cm_up h.2.1 a (f : Int) n a (j : Int) = _
          rw [cm_up_eq]; unfold cm_u1; rw [if_neg hji]
      rw [e9, e10.1, e10.2]
      exact h8
  have kk : ∀ (H1 : Heap) (locs1 : List Loc), va_P (zD Z) cm_vw (ws.set a (zB Z + a, .inr (ci, fs.set f rv))) H1 → va_D (zA Z) (ws.set a (zB Z + a, .inr (ci, fs.set f rv))) → va_S (zA Z) s.heap H1 locs1 → W p l e R s m args below meth c H1 locs1 cells slots Q (F0 m (pc + 3) rls r) := by
    intro H1 locs1 hP1 hD1 hS1
    refine k H1 locs1 cells slots rls r (cm_hr_up hP1 hD1 hwl h5 h6 hcell hout hscr hxs ha hkn.1 hkn.2.1 hce1 hkn.2.2) hS1 hn hL hs_2 ?_ ?_ ?_
    · rw [hkn.2.1]; exact hz
    · rw [hkn.2.1]; exact hc
    · rw [hkn.2.1]; exact hq
  rcases hfin with hfin | ⟨hfin, hi1, hi2⟩
  · exact va_put hx hb (cm_hts hcx args) (cm_lays hvw) ty hty hnm hown hcx.2.2.1 hP hD hS a he hvw f hfN (cm_w hcx args hln rfl) (fun _ z => z) hfin hpd hfits.1 hfits.2 hfl2 hd kk
  · exact va_putF hx hb (cm_hts hcx args) (cm_lays hvw) ty hty hnm hown hcx.2.2.1 hP hD hS a he hvw f hfN (cm_w hcx args hln rfl) (fun _ z => z) hfin (hin hi1) hi2 hpd hfits.1 hfits.2 hfl2 hd kk
end SOH
