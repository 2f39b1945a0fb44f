theorem cm_in_smin : Jvm.Cond.static Lib.Math.min.name ∈ lw_tbl := List.mem_of_getElem? (i := 445) (by decide +kernel)
theorem cm_in_smax : Jvm.Cond.static Lib.Math.max.name ∈ lw_tbl := List.mem_of_getElem? (i := 694) (by decide +kernel)
theorem cm_in_sabs : Jvm.Cond.static Lib.Math.abs.name ∈ lw_tbl := List.mem_of_getElem? (i := 1179) (by decide +kernel)
theorem cm_in_imath : Jvm.Cond.initialized "java/lang/Math" ∈ lw_tbl := List.mem_of_getElem? (i := 128) (by decide +kernel)
theorem cm_in_cmin : Jvm.Cond.code Lib.Math.min.name Lib.Math.min.code 2 (some .int) ∈ lw_tbl := List.mem_of_getElem? (i := 446) (by decide +kernel)
theorem cm_in_cmax : Jvm.Cond.code Lib.Math.max.name Lib.Math.max.code 2 (some .int) ∈ lw_tbl := List.mem_of_getElem? (i := 695) (by decide +kernel)
theorem cm_in_cabs : Jvm.Cond.code Lib.Math.abs.name Lib.Math.abs.code 1 (some .int) ∈ lw_tbl := List.mem_of_getElem? (i := 1180) (by decide +kernel)
theorem cm_in_ncpy : Jvm.Cond.native arraycopyName ∈ lw_tbl := List.mem_of_getElem? (i := 671) (by decide +kernel)
theorem cm_in_scpy : Jvm.Cond.static arraycopyName ∈ lw_tbl := List.mem_of_getElem? (i := 670) (by decide +kernel)
theorem cm_in_isys : Jvm.Cond.initialized "java/lang/System" ∈ lw_tbl := List.mem_of_getElem? (i := 140) (by decide +kernel)
theorem cm_in_iobj : Jvm.Cond.instanceMethod objectInit ∈ lw_tbl := List.mem_of_getElem? (i := 147) (by decide +kernel)
theorem cm_in_cobj : Jvm.Cond.code objectInit ⟨#[0xb1]⟩ 1 none ∈ lw_tbl := List.mem_of_getElem? (i := 148) (by decide +kernel)
theorem cm_in_aint : Jvm.Cond.arrayClass .int ∈ lw_tbl := List.mem_of_getElem? (i := 187) (by decide +kernel)
theorem cm_in_abool : Jvm.Cond.arrayClass .boolean ∈ lw_tbl := List.mem_of_getElem? (i := 242) (by decide +kernel)
theorem cm_in_along : Jvm.Cond.arrayClass .long ∈ lw_tbl := List.mem_of_getElem? (i := 1908) (by decide +kernel)

theorem cm_ix {i : Int32} {x : Int} (hi : i.toInt = x) {n : Nat} (h : 0 ≤ x ∧ x < (n : Int)) : vp_in i n ∧ i.toNatClampNeg = x.toNat ∧ x.toNat < n ∧ ((x.toNat : Nat) : Int) = x := by
  refine ⟨vp_in_iff.mpr (by rw [hi]; exact h), ?_, by omega, by omega⟩
  rw [← hi]
  rfl
section SOA
variable {Z : cm_Z} {p : Program} {l : Launch} {e : Env} {R : Room} {s : State} {m : MethodId} {args : Array Value} {below : List Frame} {meth : Method} {c : Code} {Q : State → Prop} {CC SS y pc : Nat} {hf h : cm_H} {L : cm_L} {st : List cm_V}
theorem so_al (hx : p.tables.exec = Jvm.exec) (hb : c.code = cm_by y) (hcx : cm_cx Z s) {a n : Nat} {x : Int} (hk : h.1 a = (1, n)) (hi : 0 ≤ x ∧ x < (n : Int)) (hd : decode (cm_by y) pc = .ok (.iaload, 1)) (k : cm_Go Z p l e R s m args below meth c Q CC SS y hf (pc + 1) L (.inl (h.2.2.1 a x) :: st) h) : cm_Go Z p l e R s m args below meth c Q CC SS y hf pc L (.inl x :: .inr (.inr a) :: st) h := by
  intro H locs cells slots rls rst hH hS hn hL hs hz hc hq
  obtain ⟨j, r, rfl, hj, hs_1⟩ := cm_sr_i hs
  obtain ⟨q, r, rfl, hv, hs_2⟩ := cm_sr_r hs_1
  have hH0 := hH
  obtain ⟨ws, hP, hD, hwl, h5, h6, hcell, hout, hscr, hxs⟩ := hH
  by_cases ha0 : a = 100000
  · subst ha0
    have hv : Value.ref q = .ref (zS Z) := by
      unfold cm_vr at hv
      simp only [show ¬ (100000 < 100000) by omega, if_false, if_true] at hv
      exact hv
    cases hv
    rw [hscr] at hk
    cases hk
    obtain ⟨i1, i2, i3, i4⟩ := cm_ix hj hi
    refine va_sld hx hb hcx.2.2.2.1 (Nat.lt_of_lt_of_le hcx.2.2.2.2.1 hcx.2.2.2.2.2.1) (fun z => Nat.lt_irrefl _ (Nat.lt_of_lt_of_le hcx.2.2.2.2.1 z)) hS i1 hd (k H locs cells slots rls _ hH0 hS hn hL ⟨⟨_, rfl, ?_⟩, hs_2⟩ hz hc hq)
    rw [i2, hxs.1 _ i3, i4]
  · have ha : a < h.2.2.2.2.1 := cm_lt_of hout hk (by omega) ha0
    have e1 := cm_vr_c hv (by omega)
    cases e1
    obtain ⟨e0, he, hce⟩ := hcell a ha
    obtain ⟨f, rfl, hf1⟩ := cm_ce_i hce hk
    obtain ⟨i1, i2, i3, i4⟩ := cm_ix hj hi
    refine va_iald hx hb hcx.2.2.1 hP a 0 he rfl i1 hd (k H locs cells slots rls _ hH0 hS hn hL ⟨⟨_, rfl, ?_⟩, hs_2⟩ hz hc hq)
    rw [i2, hf1 _ i3, i4]
theorem so_zl (hx : p.tables.exec = Jvm.exec) (hb : c.code = cm_by y) (hcx : cm_cx Z s) {a n : Nat} {x : Int} (hk : h.1 a = (2, n)) (hi : 0 ≤ x ∧ x < (n : Int)) (hd : decode (cm_by y) pc = .ok (.baload, 1)) (k : cm_Go Z p l e R s m args below meth c Q CC SS y hf (pc + 1) L (.inl (h.2.2.1 a x) :: st) h) : cm_Go Z p l e R s m args below meth c Q CC SS y hf pc L (.inl x :: .inr (.inr a) :: st) h := by
  intro H locs cells slots rls rst hH hS hn hL hs hz hc hq
  obtain ⟨j, r, rfl, hj, hs_1⟩ := cm_sr_i hs
  obtain ⟨q, r, rfl, hv, hs_2⟩ := cm_sr_r hs_1
  have hH0 := hH
  obtain ⟨ws, hP, hD, hwl, h5, h6, hcell, hout, hscr, hxs⟩ := hH
  have ha : a < h.2.2.2.2.1 := cm_lt_of hout hk (by omega) (fun e => by subst e; rw [hscr] at hk; cases hk)
  have e1 := cm_vr_c hv (by omega)
  cases e1
  obtain ⟨e0, he, hce⟩ := hcell a ha
  obtain ⟨f, rfl, hf1⟩ := cm_ce_z hce hk
  obtain ⟨i1, i2, i3, i4⟩ := cm_ix hj hi
  refine va_zald hx hb hcx.2.2.1 hP a 1 he rfl i1 hd (k H locs cells slots rls _ hH0 hS hn hL ⟨⟨_, rfl, ?_⟩, hs_2⟩ hz hc hq)
  rw [i2, hf1 _ i3, i4]
theorem so_jl (hx : p.tables.exec = Jvm.exec) (hb : c.code = cm_by y) (hcx : cm_cx Z s) {a n : Nat} {x : Int} (hk : h.1 a = (3, n)) (hi : 0 ≤ x ∧ x < (n : Int)) (hd : decode (cm_by y) pc = .ok (.laload, 1)) (k : cm_Go Z p l e R s m args below meth c Q CC SS y hf (pc + 1) L (.inr (.inl (h.2.2.2.1 a x)) :: st) h) : cm_Go Z p l e R s m args below meth c Q CC SS y hf pc L (.inl x :: .inr (.inr a) :: st) h := by
  intro H locs cells slots rls rst hH hS hn hL hs hz hc hq
  obtain ⟨j, r, rfl, hj, hs_1⟩ := cm_sr_i hs
  obtain ⟨q, r, rfl, hv, hs_2⟩ := cm_sr_r hs_1
  have hH0 := hH
  obtain ⟨ws, hP, hD, hwl, h5, h6, hcell, hout, hscr, hxs⟩ := hH
  have ha : a < h.2.2.2.2.1 := cm_lt_of hout hk (by omega) (fun e => by subst e; rw [hscr] at hk; cases hk)
  have e1 := cm_vr_c hv (by omega)
  cases e1
  obtain ⟨e0, he, hce⟩ := hcell a ha
  obtain ⟨f, rfl, hf1⟩ := cm_ce_j hce hk
  obtain ⟨i1, i2, i3, i4⟩ := cm_ix hj hi
  refine va_lald hx hb hcx.2.2.1 hP a 2 he rfl i1 hd (k H locs cells slots rls _ hH0 hS hn hL ⟨?_, hs_2⟩ hz hc hq)
  show Value.long _ = .long _
  rw [i2, hf1 _ i3, i4]
theorem so_rl (hx : p.tables.exec = Jvm.exec) (hb : c.code = cm_by y) (hcx : cm_cx Z s) {a n : Nat} {x : Int} (hk : h.1 a = (4, n)) (hi : 0 ≤ x ∧ x < (n : Int)) (hlt : h.2.1 a x < 300000) (hd : decode (cm_by y) pc = .ok (.aaload, 1)) (k : cm_Go Z p l e R s m args below meth c Q CC SS y hf (pc + 1) L (.inr (.inr (h.2.1 a x)) :: st) h) : cm_Go Z p l e R s m args below meth c Q CC SS y hf pc L (.inl x :: .inr (.inr a) :: st) h := by
  intro H locs cells slots rls rst hH hS hn hL hs hz hc hq
  obtain ⟨j, r, rfl, hj, hs_1⟩ := cm_sr_i hs
  obtain ⟨q, r, rfl, hv, hs_2⟩ := cm_sr_r hs_1
  have hH0 := hH
  obtain ⟨ws, hP, hD, hwl, h5, h6, hcell, hout, hscr, hxs⟩ := hH
  have ha : a < h.2.2.2.2.1 := cm_lt_of hout hk (by omega) (fun e => by subst e; rw [hscr] at hk; cases hk)
  have e1 := cm_vr_c hv (by omega)
  cases e1
  obtain ⟨e0, he, hce⟩ := hcell a ha
  obtain ⟨f, rfl, hf1⟩ := cm_ce_r hce hk
  obtain ⟨i1, i2, i3, i4⟩ := cm_ix hj hi
  obtain ⟨f1, f2⟩ := hf1 _ i3 (by rw [i4]; exact hlt)
  rw [i4] at f1 f2
  refine va_aldq hx hb hcx.2.2.1 hP a 3 he rfl i1 hd (k H locs cells slots rls _ hH0 hS hn hL ⟨?_, hs_2⟩ hz hc hq)
  rw [i2, f2]
  exact cm_vr_cI f1
theorem so_ln (hx : p.tables.exec = Jvm.exec) (hb : c.code = cm_by y) (hcx : cm_cx Z s) {a n : Nat} (hk : h.1 a = (1, n)) (hd : decode (cm_by y) pc = .ok (.arraylength, 1)) (k : cm_Go Z p l e R s m args below meth c Q CC SS y hf (pc + 1) L (.inl (n : Int) :: st) h) : cm_Go Z p l e R s m args below meth c Q CC SS y hf pc L (.inr (.inr a) :: st) h := by
  intro H locs cells slots rls rst hH hS hn hL hs hz hc hq
  obtain ⟨q, r, rfl, hv, hs_1⟩ := cm_sr_r hs
  have hH0 := hH
  obtain ⟨ws, hP, hD, hwl, h5, h6, hcell, hout, hscr, hxs⟩ := hH
  have hsm : n < 2147483648 := by have h7 := hxs.2 a (by rw [hk]); rw [hk] at h7; exact h7
  have hnn : (Int32.ofNat n).toInt = (n : Int) := nI_toInt hsm
  by_cases ha0 : a = 100000
  · subst ha0
    have hv : Value.ref q = .ref (zS Z) := by
      unfold cm_vr at hv
      simp only [show ¬ (100000 < 100000) by omega, if_false, if_true] at hv
      exact hv
    cases hv
    rw [hscr] at hk
    cases hk
    exact va_slen hx hb hcx.2.2.2.1 (Nat.lt_of_lt_of_le hcx.2.2.2.2.1 hcx.2.2.2.2.2.1) (fun z => Nat.lt_irrefl _ (Nat.lt_of_lt_of_le hcx.2.2.2.2.1 z)) hS hd (k H locs cells slots rls _ hH0 hS hn hL ⟨⟨_, rfl, hnn⟩, hs_1⟩ hz hc hq)
  · have ha : a < h.2.2.2.2.1 := cm_lt_of hout hk (by omega) ha0
    have e1 := cm_vr_c hv (by omega)
    cases e1
    obtain ⟨e0, he, hce⟩ := hcell a ha
    obtain ⟨f, rfl, hf1⟩ := cm_ce_i hce hk
    exact va_alen hx hb hcx.2.2.1 hP a 0 he (ty := .int) rfl rfl hd (k H locs cells slots rls _ hH0 hS hn hL ⟨⟨_, rfl, hnn⟩, hs_1⟩ hz hc hq)
theorem cm_sI_keep (h : cm_H) (a : Nat) (i v : Int) : (cm_sI h a i v).1 = h.1 ∧ (cm_sI h a i v).2.2.2.2 = h.2.2.2.2 ∧ ∀ k, k ≠ a → (cm_sI h a i v).2.1 k = h.2.1 k ∧ (cm_sI h a i v).2.2.1 k = h.2.2.1 k ∧ (cm_sI h a i v).2.2.2.1 k = h.2.2.2.1 k := ⟨rfl, rfl, fun k hka => ⟨rfl, cm_up_ne hka, rfl⟩⟩
theorem cm_u1_at {f : Nat → Int32} {g : Int → Int} {n : Nat} {i : Int} {w : Int32} {v : Int} (hi : 0 ≤ i ∧ i < (n : Int)) (hf : ∀ j, j < n → (f j).toInt = g (j : Int)) (hw : w.toInt = v) : ∀ j, j < n → (upd f i.toNat w j).toInt = cm_u1 g i v (j : Int) := by
  intro j hj
  unfold upd cm_u1
  by_cases hji : j = i.toNat
  · rw [if_pos hji, if_pos (by omega)]
    exact hw
  · rw [if_neg hji, if_neg (by omega)]
    exact hf j hj
theorem cm_b2 (w : Int32) : (vp_nar .boolean w).toInt = w.toInt % 2 := by
  show (w &&& 1).toInt = w.toInt % 2
  have h1 : (w &&& 1).toBitVec = w.toBitVec &&& 1#32 := rfl
  have h2 : (w &&& 1).toInt = ((w.toBitVec &&& 1#32)).toInt := rfl
  have h3 : w.toInt = w.toBitVec.toInt := rfl
  rw [h2, h3]
  generalize w.toBitVec = b
  have h4 : (b &&& 1#32).toNat = b.toNat % 2 := by
    rw [BitVec.toNat_and]
    exact Nat.and_one_is_mod _
  rw [BitVec.toInt_eq_toNat_cond, h4, BitVec.toInt_eq_toNat_cond]
  have := b.isLt
  split <;> split <;> omega
theorem so_as (hx : p.tables.exec = Jvm.exec) (hb : c.code = cm_by y) (hcx : cm_cx Z s) {a n : Nat} {x v : Int} (hk : h.1 a = (1, n)) (han : a < h.2.2.2.2.1) (hi : 0 ≤ x ∧ x < (n : Int)) (hd : decode (cm_by y) pc = .ok (.iastore, 1)) (k : cm_Go Z p l e R s m args below meth c Q CC SS y hf (pc + 1) L st (cm_sI h a x v)) : cm_Go Z p l e R s m args below meth c Q CC SS y hf pc L (.inl v :: .inl x :: .inr (.inr a) :: st) h := by
  intro H locs cells slots rls rst hH hS hn hL hs hz hc hq
  obtain ⟨w, r, rfl, hw, hs_1⟩ := cm_sr_i hs
  obtain ⟨j, r, rfl, hj, hs_2⟩ := cm_sr_i hs_1
  obtain ⟨q, r, rfl, hv, hs_3⟩ := cm_sr_r hs_2
  obtain ⟨ws, hP, hD, hwl, h5, h6, hcell, hout, hscr, hxs⟩ := hH
  have e1 := cm_vr_c hv (by omega)
  cases e1
  obtain ⟨e0, he, hce⟩ := hcell a han
  obtain ⟨f, rfl, hf1⟩ := cm_ce_i hce hk
  obtain ⟨i1, i2, i3, i4⟩ := cm_ix hj hi
  obtain ⟨k1, k2, k3⟩ := cm_sI_keep h a x v
  refine va_iast hx hb hcx.2.2.1 hP hD hS a 0 he rfl i1 hd (fun H1 locs1 hP1 hD1 hS1 => ?_)
  refine k H1 locs1 cells slots rls r (cm_hr_up hP1 hD1 hwl h5 h6 hcell hout hscr hxs han k1 k2 ?_ k3) hS1 hn hL hs_3 (by rw [k2]; exact hz) (by rw [k2]; exact hc) (by rw [k2]; exact hq)
  refine ⟨Or.inl ⟨rfl, by rw [k1]; exact hk⟩, ?_⟩
  rw [i2]
  show ∀ j, j < n → _ = cm_up h.2.2.1 a x v a (j : Int)
  rw [cm_up_eq]
  exact cm_u1_at hi hf1 hw
theorem so_zs (hx : p.tables.exec = Jvm.exec) (hb : c.code = cm_by y) (hcx : cm_cx Z s) {a n : Nat} {x v : Int} (hk : h.1 a = (2, n)) (hi : 0 ≤ x ∧ x < (n : Int)) (hd : decode (cm_by y) pc = .ok (.bastore, 1)) (k : cm_Go Z p l e R s m args below meth c Q CC SS y hf (pc + 1) L st (cm_sI h a x (v % 2))) : cm_Go Z p l e R s m args below meth c Q CC SS y hf pc L (.inl v :: .inl x :: .inr (.inr a) :: st) h := by
  intro H locs cells slots rls rst hH hS hn hL hs hz hc hq
  obtain ⟨w, r, rfl, hw, hs_1⟩ := cm_sr_i hs
  obtain ⟨j, r, rfl, hj, hs_2⟩ := cm_sr_i hs_1
  obtain ⟨q, r, rfl, hv, hs_3⟩ := cm_sr_r hs_2
  obtain ⟨ws, hP, hD, hwl, h5, h6, hcell, hout, hscr, hxs⟩ := hH
  have han : a < h.2.2.2.2.1 := cm_lt_of hout hk (by omega) (fun e => by subst e; rw [hscr] at hk; cases hk)
  have e1 := cm_vr_c hv (by omega)
  cases e1
  obtain ⟨e0, he, hce⟩ := hcell a han
  obtain ⟨f, rfl, hf1⟩ := cm_ce_z hce hk
  obtain ⟨i1, i2, i3, i4⟩ := cm_ix hj hi
  obtain ⟨k1, k2, k3⟩ := cm_sI_keep h a x (v % 2)
  refine va_zast hx hb hcx.2.2.1 hP hD hS a 1 he rfl i1 hd (fun H1 locs1 hP1 hD1 hS1 => ?_)
  refine k H1 locs1 cells slots rls r (cm_hr_up hP1 hD1 hwl h5 h6 hcell hout hscr hxs han k1 k2 ?_ k3) hS1 hn hL hs_3 (by rw [k2]; exact hz) (by rw [k2]; exact hc) (by rw [k2]; exact hq)
  refine ⟨Or.inr ⟨rfl, by rw [k1]; exact hk⟩, ?_⟩
  rw [i2]
  show ∀ j, j < n → _ = cm_up h.2.2.1 a x (v % 2) a (j : Int)
  rw [cm_up_eq]
  exact cm_u1_at hi hf1 (by rw [cm_b2, hw])
theorem so_js (hx : p.tables.exec = Jvm.exec) (hb : c.code = cm_by y) (hcx : cm_cx Z s) {a n : Nat} {x : Int} {v : Int64} (hk : h.1 a = (3, n)) (hi : 0 ≤ x ∧ x < (n : Int)) (hd : decode (cm_by y) pc = .ok (.lastore, 1)) (k : cm_Go Z p l e R s m args below meth c Q CC SS y hf (pc + 1) L st (cm_sJ h a x v)) : cm_Go Z p l e R s m args below meth c Q CC SS y hf pc L (.inr (.inl v) :: .inl x :: .inr (.inr a) :: st) h := by
  intro H locs cells slots rls rst hH hS hn hL hs hz hc hq
  obtain ⟨r0, rfl, hs0⟩ := cm_sr_l hs
  obtain ⟨j, r1, rfl, hj, hs1⟩ := cm_sr_i hs0
  obtain ⟨q, r, rfl, hv, hs2⟩ := cm_sr_r hs1
  obtain ⟨ws, hP, hD, hwl, h5, h6, hcell, hout, hscr, hxs⟩ := hH
  have han : a < h.2.2.2.2.1 := cm_lt_of hout hk (by omega) (fun e => by subst e; rw [hscr] at hk; cases hk)
  have e1 := cm_vr_c hv (by omega)
  cases e1
  obtain ⟨e0, he, hce⟩ := hcell a han
  obtain ⟨f, rfl, hf1⟩ := cm_ce_j hce hk
  obtain ⟨i1, i2, i3, i4⟩ := cm_ix hj hi
  refine va_last hx hb hcx.2.2.1 hP hD hS a 2 he rfl i1 hd (fun H1 locs1 hP1 hD1 hS1 => ?_)
  refine k H1 locs1 cells slots rls r (cm_hr_up hP1 hD1 hwl h5 h6 hcell hout hscr hxs han rfl rfl ?_ (fun k hka => ⟨rfl, rfl, cm_up_ne hka⟩)) hS1 hn hL hs2 hz hc hq
  refine ⟨rfl, hk, fun j2 hj2 => ?_⟩
  show vp_updL f j.toNatClampNeg v j2 = cm_up h.2.2.2.1 a x v a (j2 : Int)
  rw [cm_up_eq, i2]
  unfold vp_updL cm_u1
  by_cases hji : j2 = x.toNat
  · rw [if_pos hji, if_pos (by omega)]
  · rw [if_neg hji, if_neg (by omega)]
    exact hf1 j2 hj2
theorem so_rs (hx : p.tables.exec = Jvm.exec) (hb : c.code = cm_by y) (hcx : cm_cx Z s) {a n v : Nat} {x : Int} (hk : h.1 a = (4, n)) (hkv : h.1 v = (0, 6)) (hi : 0 ≤ x ∧ x < (n : Int)) (hd : decode (cm_by y) pc = .ok (.aastore, 1)) (k : cm_Go Z p l e R s m args below meth c Q CC SS y hf (pc + 1) L st (cm_sR h a x v)) : cm_Go Z p l e R s m args below meth c Q CC SS y hf pc L (.inr (.inr v) :: .inl x :: .inr (.inr a) :: st) h := by
  intro H locs cells slots rls rst hH hS hn hL hs hz hc hq
  obtain ⟨w, r, rfl, hw, hs_1⟩ := cm_sr_r hs
  obtain ⟨j, r, rfl, hj, hs_2⟩ := cm_sr_i hs_1
  obtain ⟨q, r, rfl, hv, hs_3⟩ := cm_sr_r hs_2
  obtain ⟨ws, hP, hD, hwl, h5, h6, hcell, hout, hscr, hxs⟩ := hH
  have han : a < h.2.2.2.2.1 := cm_lt_of hout hk (by omega) (fun e => by subst e; rw [hscr] at hk; cases hk)
  have hvn : v < h.2.2.2.2.1 := cm_lt_of hout hkv (by omega) (fun e => by subst e; rw [hscr] at hkv; cases hkv)
  have e1 := cm_vr_c hv (by omega)
  cases e1
  have e2 := cm_vr_c hw (by omega)
  cases e2
  obtain ⟨e0, he, hce⟩ := hcell a han
  obtain ⟨f, rfl, hf1⟩ := cm_ce_r hce hk
  obtain ⟨e3, he3, hce3⟩ := hcell v hvn
  obtain ⟨fs, rfl⟩ := cm_ce_o hce3 hkv
  obtain ⟨i1, i2, i3, i4⟩ := cm_ix hj hi
  refine va_astq hx hb hcx.2.2.1 hP hD hS a 3 v 6 (r := (RX6, TX6, 11)) he rfl he3 rfl i1 hd (fun H1 locs1 hP1 hD1 hS1 => ?_)
  refine k H1 locs1 cells slots rls r (cm_hr_up hP1 hD1 hwl h5 h6 hcell hout hscr hxs han rfl rfl ?_ (fun k hka => ⟨cm_up_ne hka, rfl, rfl⟩)) hS1 hn hL hs_3 hz hc hq
  refine ⟨rfl, hk, fun j2 hj2 => ?_⟩
  show cm_up h.2.1 a x v a (j2 : Int) < 300000 → cm_up h.2.1 a x v a (j2 : Int) < 100000 ∧ va_up f j.toNatClampNeg (some (zB Z + v)) j2 = some (zB Z + cm_up h.2.1 a x v a (j2 : Int))
  rw [cm_up_eq, i2]
  unfold cm_u1
  by_cases hji : j2 = x.toNat
  · rw [if_pos (show (j2 : Int) = x by omega)]
    intro _
    refine ⟨by omega, ?_⟩
    rw [hji]
    simp [va_up]
  · rw [if_neg (show ¬ (j2 : Int) = x by omega)]
    intro hlt
    obtain ⟨g1, g2⟩ := hf1 j2 hj2 hlt
    refine ⟨g1, ?_⟩
    simp [va_up, hji, g2]
theorem cm_pl_inv {y i a : Nat} (h : cm_pls.any (fun q => q.1 == cm_ow y && (q.2.1 == i && q.2.2.1 == a)) = true) : Jvm.Cond.methodLink (cm_cn (cm_ow y)) i (cm_pn a) ∈ lw_tbl := by
  obtain ⟨⟨q1, q2, q3, q4⟩, hm, hq⟩ := List.any_eq_true.mp h
  simp only [Bool.and_eq_true, beq_iff_eq] at hq
  obtain ⟨rfl, rfl, rfl⟩ := hq
  have h1 := List.all_eq_true.mp cm_pls_ok _ hm
  exact List.mem_of_getElem? (of_decide_eq_true h1)
theorem so_oi (hx : p.tables.exec = Jvm.exec) (hb : c.code = cm_by y) (hown : s.vm.findClass (cm_cn (cm_ow y)) = some m.cls) (hcx : cm_cx Z s) (hml : c.maxLocals = cm_mL y) (hfr : 1 ≤ R.frames) (hlo : 100 ≤ R.locals) (hCC : CC ≤ R.cells) (hSS : SS ≤ R.slots) (hle : cm_hle h hf) {i a : Nat} (hpl : cm_pls.any (fun q => q.1 == cm_ow y && (q.2.1 == i && q.2.2.1 == 1)) = true) (hw : cm_wd (.inr (.inr a) :: st) ≤ 16) (hd : decode (cm_by y) pc = .ok (.invokespecial i, 3)) (k : cm_Go Z p l e R s m args below meth c Q CC SS y hf (pc + 3) L st h) : cm_Go Z p l e R s m args below meth c Q CC SS y hf pc L (.inr (.inr a) :: st) h := by
  intro H locs cells slots rls rst hH hS hn hL hs hz hc hq
  have hsz := cm_lr_size hL
  have hwd := cm_sr_wd hs
  obtain ⟨q, r, rfl, hv, hs_1⟩ := cm_sr_r hs
  refine W.objInit hx hb hown (cm_w hcx args (cm_pl_inv hpl) rfl) (cm_w hcx args cm_in_iobj rfl) (cm_w hcx args cm_in_cobj rfl) rfl (hsz.trans (hn.trans hml.symm)) rfl hd hfr ?_ (k H locs cells slots rls _ hH hS hn hL hs_1 hz hc hq)
  simp only [List.map_cons, List.sum_cons] at hwd
  show 2 * 0 + _ + 12 ≤ R.locals
  omega
theorem so_min (hx : p.tables.exec = Jvm.exec) (hb : c.code = cm_by y) (hown : s.vm.findClass (cm_cn (cm_ow y)) = some m.cls) (hcx : cm_cx Z s) (hml : c.maxLocals = cm_mL y) (hfr : 1 ≤ R.frames) (hlo : 100 ≤ R.locals) (hCC : CC ≤ R.cells) (hSS : SS ≤ R.slots) (hle : cm_hle h hf) {i : Nat} {a b : Int} (hpl : cm_pls.any (fun q => q.1 == cm_ow y && (q.2.1 == i && q.2.2.1 == 2)) = true) (hw : cm_wd (.inl b :: .inl a :: st) ≤ 16) (hd : decode (cm_by y) pc = .ok (.invokestatic i, 3)) (k : cm_Go Z p l e R s m args below meth c Q CC SS y hf (pc + 3) L (.inl (cm_mn a b) :: st) h) : cm_Go Z p l e R s m args below meth c Q CC SS y hf pc L (.inl b :: .inl a :: st) h := by
  intro H locs cells slots rls rst hH hS hn hL hs hz hc hq
  have hsz := cm_lr_size hL
  have hwd := cm_sr_wd hs
  obtain ⟨j, r, rfl, hj, hs_1⟩ := cm_sr_i hs
  obtain ⟨q, r, rfl, hv, hs_2⟩ := cm_sr_i hs_1
  simp only [List.map_cons, List.sum_cons] at hwd
  refine va_mmin hx hb (hml.trans (hn.symm.trans hsz.symm)) hown (cm_w hcx args (cm_pl_inv hpl) rfl) (cm_w hcx args cm_in_smin rfl) (cm_w hcx args cm_in_imath rfl) (cm_w hcx args cm_in_cmin rfl) hfr (by omega) (by have := hle.1; omega) (by have := hle.2; omega) hd (k H locs cells slots rls _ hH hS hn hL ⟨⟨_, rfl, ?_⟩, hs_2⟩ hz hc hq)
  unfold cm_mn
  rw [← hj, ← hv]
  by_cases hlt : j < q
  · rw [if_pos hlt, if_pos ((cm_ltI _ _).mp hlt)]
  · rw [if_neg hlt, if_neg (fun z => hlt ((cm_ltI _ _).mpr z))]
theorem so_max (hx : p.tables.exec = Jvm.exec) (hb : c.code = cm_by y) (hown : s.vm.findClass (cm_cn (cm_ow y)) = some m.cls) (hcx : cm_cx Z s) (hml : c.maxLocals = cm_mL y) (hfr : 1 ≤ R.frames) (hlo : 100 ≤ R.locals) (hCC : CC ≤ R.cells) (hSS : SS ≤ R.slots) (hle : cm_hle h hf) {i : Nat} {a b : Int} (hpl : cm_pls.any (fun q => q.1 == cm_ow y && (q.2.1 == i && q.2.2.1 == 3)) = true) (hw : cm_wd (.inl b :: .inl a :: st) ≤ 16) (hd : decode (cm_by y) pc = .ok (.invokestatic i, 3)) (k : cm_Go Z p l e R s m args below meth c Q CC SS y hf (pc + 3) L (.inl (cm_mx a b) :: st) h) : cm_Go Z p l e R s m args below meth c Q CC SS y hf pc L (.inl b :: .inl a :: st) h := by
  intro H locs cells slots rls rst hH hS hn hL hs hz hc hq
  have hsz := cm_lr_size hL
  have hwd := cm_sr_wd hs
  obtain ⟨j, r, rfl, hj, hs_1⟩ := cm_sr_i hs
  obtain ⟨q, r, rfl, hv, hs_2⟩ := cm_sr_i hs_1
  simp only [List.map_cons, List.sum_cons] at hwd
  refine va_mmax hx hb (hml.trans (hn.symm.trans hsz.symm)) hown (cm_w hcx args (cm_pl_inv hpl) rfl) (cm_w hcx args cm_in_smax rfl) (cm_w hcx args cm_in_imath rfl) (cm_w hcx args cm_in_cmax rfl) hfr (by omega) (by have := hle.1; omega) (by have := hle.2; omega) hd (k H locs cells slots rls _ hH hS hn hL ⟨⟨_, rfl, ?_⟩, hs_2⟩ hz hc hq)
  unfold cm_mx
  rw [← hj, ← hv]
  by_cases hlt : q < j
  · rw [if_pos hlt, if_pos ((cm_ltI _ _).mp hlt)]
  · rw [if_neg hlt, if_neg (fun z => hlt ((cm_ltI _ _).mpr z))]
theorem so_abs (hx : p.tables.exec = Jvm.exec) (hb : c.code = cm_by y) (hown : s.vm.findClass (cm_cn (cm_ow y)) = some m.cls) (hcx : cm_cx Z s) (hml : c.maxLocals = cm_mL y) (hfr : 1 ≤ R.frames) (hlo : 100 ≤ R.locals) (hCC : CC ≤ R.cells) (hSS : SS ≤ R.slots) (hle : cm_hle h hf) {i : Nat} {a : Int} (hpl : cm_pls.any (fun q => q.1 == cm_ow y && (q.2.1 == i && q.2.2.1 == 4)) = true) (hw : cm_wd (.inl a :: st) ≤ 16) (hd : decode (cm_by y) pc = .ok (.invokestatic i, 3)) (k : cm_Go Z p l e R s m args below meth c Q CC SS y hf (pc + 3) L (.inl (if 0 ≤ a then a else cm_wr (0 - a)) :: st) h) : cm_Go Z p l e R s m args below meth c Q CC SS y hf pc L (.inl a :: st) h := by
  intro H locs cells slots rls rst hH hS hn hL hs hz hc hq
  have hsz := cm_lr_size hL
  have hwd := cm_sr_wd hs
  obtain ⟨q, r, rfl, hv, hs_1⟩ := cm_sr_i hs
  simp only [List.map_cons, List.sum_cons] at hwd
  refine va_mabs hx hb (hml.trans (hn.symm.trans hsz.symm)) hown (cm_w hcx args (cm_pl_inv hpl) rfl) (cm_w hcx args cm_in_sabs rfl) (cm_w hcx args cm_in_imath rfl) (cm_w hcx args cm_in_cabs rfl) hfr (by omega) (by have := hle.1; omega) (by have := hle.2; omega) hd (k H locs cells slots rls _ hH hS hn hL ⟨⟨_, rfl, ?_⟩, hs_1⟩ hz hc hq)
  rw [← hv]
  have h0 : 0 ≤ q ↔ 0 ≤ q.toInt := cm_leI 0 q
  by_cases hlt : 0 ≤ q
  · rw [if_pos hlt, if_pos (h0.mp hlt)]
  · rw [if_neg hlt, if_neg (fun z => hlt (h0.mpr z)), cm_sub]
    rfl
theorem so_cpy (hx : p.tables.exec = Jvm.exec) (hb : c.code = cm_by y) (hown : s.vm.findClass (cm_cn (cm_ow y)) = some m.cls) (hcx : cm_cx Z s) (hml : c.maxLocals = cm_mL y) (hfr : 1 ≤ R.frames) (hlo : 100 ≤ R.locals) (hCC : CC ≤ R.cells) (hSS : SS ≤ R.slots) (hle : cm_hle h hf) {i a b na nb : Nat} {n dp sp : Int} (hpl : cm_pls.any (fun q => q.1 == cm_ow y && (q.2.1 == i && q.2.2.1 == 5)) = true) (hw : cm_wd (.inl n :: .inl dp :: .inr (.inr a) :: .inl sp :: .inr (.inr b) :: st) ≤ 16) (hka : h.1 a = (1, na)) (hkb : h.1 b = (1, nb)) (han : a < h.2.2.2.2.1) (hbn : b < h.2.2.2.2.1) (h0 : 0 ≤ n ∧ 0 ≤ dp ∧ 0 ≤ sp) (h1 : sp + n ≤ (nb : Int)) (h2 : dp + n ≤ (na : Int)) (hd : decode (cm_by y) pc = .ok (.invokestatic i, 3))
    (k : cm_Go Z p l e R s m args below meth c Q CC SS y hf (pc + 3) L st (cm_sA h a (cm_cp (h.2.2.1 b) (h.2.2.1 a) sp dp n))) : cm_Go Z p l e R s m args below meth c Q CC SS y hf pc L (.inl n :: .inl dp :: .inr (.inr a) :: .inl sp :: .inr (.inr b) :: st) h := by
  intro H locs cells slots rls rst hH hS hn hL hs hz hc hq
  have hsz := cm_lr_size hL
  have hwd := cm_sr_wd hs
  obtain ⟨jn, r, rfl, hjn, hs_1⟩ := cm_sr_i hs
  obtain ⟨jd, r, rfl, hjd, hs_2⟩ := cm_sr_i hs_1
  obtain ⟨qa, r, rfl, hva, hs_3⟩ := cm_sr_r hs_2
  obtain ⟨js, r, rfl, hjs, hs_4⟩ := cm_sr_i hs_3
  obtain ⟨qb, r, rfl, hvb, hs_5⟩ := cm_sr_r hs_4
  simp only [List.map_cons, List.sum_cons] at hwd
  obtain ⟨ws, hP, hD, hwl, h5, h6, hcell, hout, hscr, hxs⟩ := hH
  have e1 := cm_vr_c hva (by omega)
  cases e1
  have e2 := cm_vr_c hvb (by omega)
  cases e2
  obtain ⟨ea, hea, hca⟩ := hcell a han
  obtain ⟨fa, rfl, hfa⟩ := cm_ce_i hca hka
  obtain ⟨eb, heb, hcb⟩ := hcell b hbn
  obtain ⟨fb, rfl, hfb⟩ := cm_ce_i hcb hkb
  have cn : jn.toNatClampNeg = n.toNat := by rw [← hjn]; rfl
  have cd : jd.toNatClampNeg = dp.toNat := by rw [← hjd]; rfl
  have cs : js.toNatClampNeg = sp.toNat := by rw [← hjs]; rfl
  have z0 : (0 : Int32).toInt = 0 := rfl
  refine va_copyi hx hb (hml.trans (hn.symm.trans hsz.symm)) hown (cm_w hcx args (cm_pl_inv hpl) rfl) (cm_w hcx args cm_in_ncpy rfl) (cm_w hcx args cm_in_scpy rfl) (cm_w hcx args cm_in_isys rfl) hcx.2.2.1 hP hD hS b a 0 0 heb hea rfl rfl rfl (by rw [cm_ltI, hjs, z0]; omega) (by rw [cm_ltI, hjd, z0]; omega) (by rw [cm_ltI, hjn, z0]; omega) (by rw [cs, cn]; omega) (by rw [cd, cn]; omega) (fun _ _ => rfl) hfr ?_ hd (fun H1 locs1 hP1 hD1 hS1 => ?_)
  · have : nativeFrameWords "java/lang/System" "arraycopy" 5 = 7 := by decide
    rw [this]
    omega
  · refine k H1 locs1 cells slots rls r (cm_hr_up hP1 hD1 hwl h5 h6 hcell hout hscr hxs han rfl rfl ?_ (fun k hka => ⟨rfl, by show cm_ua _ _ _ _ = _; unfold cm_ua; rw [if_neg hka], rfl⟩)) hS1 hn hL hs_5 hz hc hq
    refine ⟨Or.inl ⟨rfl, hka⟩, fun j hj => ?_⟩
    show (va_cpy fb fa js.toNatClampNeg jd.toNatClampNeg jn.toNatClampNeg j).toInt = cm_ua h.2.2.1 a (cm_cp (h.2.2.1 b) (h.2.2.1 a) sp dp n) a (j : Int)
    unfold cm_ua
    rw [if_pos rfl, cs, cd, cn]
    unfold cm_cp
    by_cases hin : dp ≤ (j : Int) ∧ (j : Int) < dp + n
    · rw [if_pos hin, pk_cpy_in (by omega) (by omega), hfb _ (by omega)]
      have e9 : ((sp.toNat + (j - dp.toNat) : Nat) : Int) = sp + ((j : Int) - dp) := by omega
      rw [e9]
    · rw [if_neg hin, pk_cpy_out (by omega)]
      exact hfa j hj
theorem cm_kl_inv {y i b : Nat} (h : cm_kls.any (fun q => q.1 == cm_ow y && (q.2.1 == i && q.2.2.1 == b)) = true) : Jvm.Cond.constant (cm_cn (cm_ow y)) i (Int32.ofNat b) ∈ lw_tbl ∧ b < 2147483648 := by
  obtain ⟨⟨q1, q2, q3, q4⟩, hm, hq⟩ := List.any_eq_true.mp h
  simp only [Bool.and_eq_true, beq_iff_eq] at hq
  obtain ⟨rfl, rfl, rfl⟩ := hq
  have h1 := List.all_eq_true.mp cm_kls_ok _ hm
  unfold cm_okk at h1
  simp only [Bool.and_eq_true, decide_eq_true_eq] at h1
  exact ⟨List.mem_of_getElem? h1.1, h1.2⟩
theorem so_ldcI (hx : p.tables.exec = Jvm.exec) (hb : c.code = cm_by y) (hown : s.vm.findClass (cm_cn (cm_ow y)) = some m.cls) (hcx : cm_cx Z s) {i b len : Nat} (hkl : cm_kls.any (fun q => q.1 == cm_ow y && (q.2.1 == i && q.2.2.1 == b)) = true) (hd : (decode (cm_by y) pc = .ok (.ldc i, 2) ∧ len = 2) ∨ (decode (cm_by y) pc = .ok (.ldc_w i, 3) ∧ len = 3)) (k : cm_Go Z p l e R s m args below meth c Q CC SS y hf (pc + len) L (.inl (b : Int) :: st) h) : cm_Go Z p l e R s m args below meth c Q CC SS y hf pc L st h := by
  intro H locs cells slots rls rst hH hS hn hL hs hz hc hq
  obtain ⟨h1, h2⟩ := cm_kl_inv hkl
  have kk := k H locs cells slots rls (.int (Int32.ofNat b) :: rst) hH hS hn hL ⟨⟨_, rfl, nI_toInt h2⟩, hs⟩ hz hc hq
  rcases hd with ⟨hd, rfl⟩ | ⟨hd, rfl⟩
  · exact lv_ldc hx hb hown (cm_w hcx args h1 rfl) hd kk
  · exact lv_ldcw hx hb hown (cm_w hcx args h1 rfl) hd kk
theorem so_ldc2 (hx : p.tables.exec = Jvm.exec) (hb : c.code = cm_by y) (hown : s.vm.findClass (cm_cn (cm_ow y)) = some m.cls) (hcx : cm_cx Z s) {i : Nat} (hjl : cm_jls.any (fun q => q.1 == cm_ow y && q.2.1 == i) = true) (hd : decode (cm_by y) pc = .ok (.ldc2_w i, 3)) (k : cm_Go Z p l e R s m args below meth c Q CC SS y hf (pc + 3) L (.inr (.inl (-1)) :: st) h) : cm_Go Z p l e R s m args below meth c Q CC SS y hf pc L st h := by
  intro H locs cells slots rls rst hH hS hn hL hs hz hc hq
  obtain ⟨⟨q1, q2, q3⟩, hm, hq1⟩ := List.any_eq_true.mp hjl
  simp only [Bool.and_eq_true, beq_iff_eq] at hq1
  obtain ⟨rfl, rfl⟩ := hq1
  have h1 := List.all_eq_true.mp cm_jls_ok _ hm
  have h2 : Jvm.Cond.constantLong (cm_cn (cm_ow y)) q2 (-1) ∈ lw_tbl := List.mem_of_getElem? (of_decide_eq_true h1)
  exact lv_ldc2 hx hb hown (cm_w hcx args h2 rfl) hd (k H locs cells slots rls _ hH hS hn hL ⟨rfl, hs⟩ hz hc hq)
theorem so_ldcS (hx : p.tables.exec = Jvm.exec) (hb : c.code = cm_by y) (hown : s.vm.findClass (cm_cn (cm_ow y)) = some m.cls) (hcx : cm_cx Z s) {i b k0 : Nat} (hk0 : k0 < 6) (hli : (cm_lits[k0]?).map (fun q => (q.1, q.2.1)) = some (cm_cn (cm_ow y), i)) (hb0 : b = 200000 + k0 % 3) (hd : decode (cm_by y) pc = .ok (.ldc i, 2)) (k : cm_Go Z p l e R s m args below meth c Q CC SS y hf (pc + 2) L (.inr (.inr b) :: st) h) : cm_Go Z p l e R s m args below meth c Q CC SS y hf pc L st h := by
  intro H locs cells slots rls rst hH hS hn hL hs hz hc hq
  cases e1 : cm_lits[k0]? with
  | none => rw [e1] at hli; cases hli
  | some q =>
    rw [e1] at hli
    obtain ⟨q1, q2, q3⟩ := q
    simp only [Option.map_some, Option.some.injEq, Prod.mk.injEq] at hli
    obtain ⟨rfl, rfl⟩ := hli
    have h1 := hcx.2.2.2.2.2.2.2.2.2.1 k0 _ e1
    have kk := k H locs cells slots rls (.ref (zK Z k0) :: rst) hH hS hn hL ⟨by
      unfold cm_vr
      simp only
      rw [if_neg (by omega), if_neg (by omega), if_pos (by omega)]
      exact ⟨k0, hk0, by omega, rfl⟩, hs⟩ hz hc hq
    exact va_ldcS hx hb hown h1 hd kk
end SOA
