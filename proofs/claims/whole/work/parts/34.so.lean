section SON
variable {Z : cm_Z} {p : Program} {l : Launch} {e : Env} {R : Room} {s : State} {m : MethodId} {args : Array Value} {below : List Frame} {meth : Method} {c : Code} {Q : State → Prop} {CC SS y pc : Nat} {hf h : cm_H} {L : cm_L} {st : List cm_V}
theorem cm_szW {H : Heap} {locs : List Loc} {cells slots : Nat} {g : JFrame} (k : H.size ≤ s.heap.size + cells → W p l e R s m args below meth c H locs cells slots Q g) : W p l e R s m args below meth c H locs cells slots Q g := fun T hT X => k (by rw [← hT]; exact X.heapSize) T hT X
theorem cm_size_eq {H : Heap} {locs : List Loc} {cells : Nat} (hcx : cm_cx Z s) (hH : cm_hr Z h H) (hS : va_S (zA Z) s.heap H locs) (hz : s.heap.size + cells ≤ zB Z + h.2.2.2.2.2.1) (he : h.2.2.2.2.1 = h.2.2.2.2.2.1) (hs : H.size ≤ s.heap.size + cells) : H.size = zB Z + h.2.2.2.2.1 := by
  obtain ⟨ws, hP, hD, hwl, h5, h6, hcell, hout, hscr, hxs⟩ := hH
  have h1 : zB Z + h.2.2.2.2.1 ≤ H.size := by
    cases e0 : h.2.2.2.2.1 with
    | zero =>
      have := hcx.2.2.2.2.2.1
      have := hS.1
      omega
    | succ n =>
      obtain ⟨e1, he1, -⟩ := hcell n (by omega)
      have h2 : zB Z + n < H.size := (hP n _ he1).lt
      omega
  omega
theorem cm_ua_ne {α : Type} {f : Nat → α} {a b : Nat} {g : α} (hh : b ≠ a) : cm_ua f a g b = f b := by unfold cm_ua; rw [if_neg hh]
theorem cm_ua_eq {α : Type} {f : Nat → α} {a : Nat} {g : α} : cm_ua f a g a = g := by unfold cm_ua; rw [if_pos rfl]
theorem cm_hr_mk {H1 : Heap} {ws : va_W} {e' : va_E} {kd : Nat × Nat} {n : Nat} (hP1 : va_P (zD Z) cm_vw (ws ++ [(zB Z + h.2.2.2.2.1, e')]) H1) (hD1 : va_D (zA Z) (ws ++ [(zB Z + h.2.2.2.2.1, e')])) (hwl : ws.length = h.2.2.2.2.1) (h5 : h.2.2.2.2.1 < 99999) (h6 : h.2.2.2.2.1 ≤ h.2.2.2.2.2.1)
    (hcell : ∀ k, k < h.2.2.2.2.1 → ∃ e, ws[k]? = some (zB Z + k, e) ∧ cm_ce Z h k e) (hout : ∀ a, h.2.2.2.2.1 ≤ a → a ≠ 100000 → h.1 a = (9, 0)) (hscr : h.1 100000 = (1, zL Z)) (hxs : (∀ j, j < zL Z → (zX Z j).toInt = h.2.2.1 100000 (j : Int)) ∧ ∀ a, (h.1 a).1 = 1 → (h.1 a).2 < 2147483648) (hkb : kd.1 = 1 → kd.2 < 2147483648) (he' : cm_ce Z (cm_mk h kd n) h.2.2.2.2.1 e') : cm_hr Z (cm_mk h kd n) H1 := by
  refine ⟨_, hP1, hD1, by rw [List.length_append, hwl]; rfl, by show h.2.2.2.2.1 + 1 ≤ 100000; omega, Nat.succ_le_succ h6, ?_, ?_, ?_, ?_⟩
  · intro k hk
    have hk : k < h.2.2.2.2.1 + 1 := hk
    by_cases hkn : k = h.2.2.2.2.1
    · subst hkn
      refine ⟨e', ?_, he'⟩
      rw [List.getElem?_append_right (by omega), hwl]
      simp
    · obtain ⟨e0, h7, h8⟩ := hcell k (by omega)
      refine ⟨e0, by rw [List.getElem?_append_left (by omega)]; exact h7, cm_ce_same ?_ ?_ ?_ ?_ h8⟩
      · exact cm_ua_ne hkn
      · exact cm_ua_ne hkn
      · exact cm_ua_ne hkn
      · exact cm_ua_ne hkn
  · intro a ha ha2
    have ha : h.2.2.2.2.1 + 1 ≤ a := ha
    show cm_ua h.1 h.2.2.2.2.1 kd a = (9, 0)
    rw [cm_ua_ne (by omega)]
    exact hout a (by omega) ha2
  · show cm_ua h.1 h.2.2.2.2.1 kd 100000 = _
    rw [cm_ua_ne (by omega)]
    exact hscr
  · refine ⟨fun j hj => ?_, fun a ha => ?_⟩
    · show _ = cm_ua h.2.2.1 h.2.2.2.2.1 (fun _ => 0) 100000 (j : Int)
      rw [cm_ua_ne (by omega)]
      exact hxs.1 j hj
    · have ha : (cm_ua h.1 h.2.2.2.2.1 kd a).1 = 1 := ha
      show (cm_ua h.1 h.2.2.2.2.1 kd a).2 < 2147483648
      by_cases hae : a = h.2.2.2.2.1
      · rw [hae, cm_ua_eq] at ha ⊢
        exact hkb ha
      · rw [cm_ua_ne hae] at ha ⊢
        exact hxs.2 a ha
theorem cm_cl_inv {i b n : Nat} (hh : cm_cls.any (fun q => q.1 == cm_ow y && (q.2.1 == i && (q.2.2.1 == b && q.2.2.2.1 == n))) = true) : ∃ (C : String) (T : u_T), cm_vw[b]? = some (C, T, n) ∧ Jvm.Cond.classLink (cm_cn (cm_ow y)) i C ∈ lw_tbl ∧ Jvm.Cond.instantiable C n ∈ lw_tbl ∧ Jvm.Cond.initialized C ∈ lw_tbl := by
  obtain ⟨⟨q1, q2, q3, q4, q5⟩, hm, hq⟩ := List.any_eq_true.mp hh
  simp only [Bool.and_eq_true, beq_iff_eq] at hq
  obtain ⟨rfl, rfl, rfl, rfl⟩ := hq
  have h1 := List.all_eq_true.mp cm_cls_ok _ hm
  unfold cm_okc at h1
  simp only at h1
  cases e1 : cm_vw[q3]? with
  | none => rw [e1] at h1; simp at h1
  | some z =>
    cases e2 : cm_cis[q3]? with
    | none => rw [e1, e2] at h1; simp at h1
    | some w =>
      obtain ⟨C, T, N⟩ := z
      obtain ⟨i1, j1⟩ := w
      rw [e1, e2] at h1
      simp only [Bool.and_eq_true, decide_eq_true_eq] at h1
      obtain ⟨⟨⟨rfl, h2⟩, h3⟩, h4⟩ := h1
      exact ⟨C, T, rfl, List.mem_of_getElem? h2, List.mem_of_getElem? h3, List.mem_of_getElem? h4⟩
theorem so_new (hx : p.tables.exec = Jvm.exec) (hb : c.code = cm_by y) (hown : s.vm.findClass (cm_cn (cm_ow y)) = some m.cls) (hcx : cm_cx Z s) (hml : c.maxLocals = cm_mL y) (hfr : 1 ≤ R.frames) (hlo : 100 ≤ R.locals) (hCC : CC ≤ R.cells) (hSS : SS ≤ R.slots) {i b n : Nat} (hcl : cm_cls.any (fun q => q.1 == cm_ow y && (q.2.1 == i && (q.2.2.1 == b && q.2.2.2.1 == n))) = true) (he : h.2.2.2.2.1 = h.2.2.2.2.2.1) (h9 : h.2.2.2.2.1 < 99999) (hle : cm_hle (cm_mk h (0, b) n) hf) (hd : decode (cm_by y) pc = .ok (.new i, 3)) (k : cm_Go Z p l e R s m args below meth c Q CC SS y hf (pc + 3) L (.inr (.inr h.2.2.2.2.1) :: st) (cm_mk h (0, b) n)) : cm_Go Z p l e R s m args below meth c Q CC SS y hf pc L st h := by
  intro H locs cells slots rls rst hH hS hn hL hs hz hc hq
  refine cm_szW (fun hsz => ?_)
  have hHs := cm_size_eq hcx hH hS hz he hsz
  obtain ⟨C, T, hvw, hl1, hl2, hl3⟩ := cm_cl_inv hcl
  obtain ⟨⟨ty, hty, htr⟩, hnm⟩ := cm_vw_ty hvw
  obtain ⟨ws, hP, hD, hwl, h5, h6, hcell, hout, hscr, hxs⟩ := hH
  have hKn := hcx.2.2.1.1 b _ hvw
  have hle1 : h.2.2.2.2.2.1 + 1 ≤ hf.2.2.2.2.2.1 := hle.1
  have hle2 : h.2.2.2.2.2.2 + n ≤ hf.2.2.2.2.2.2 := hle.2
  refine W.newcK hx hb hown (cm_w hcx args hl1 rfl) (cm_w hcx args hl2 rfl) (cm_w hcx args hl3 rfl) rfl hd (by omega) (by omega) hKn.2.1 rfl fun H1 kC hkC e1 z1 o1 => ?_
  have hk : ∀ (k : Nat) (x : Nat × va_E), ws[k]? = some x → H1[x.1]? = H[x.1]? := fun k x hx => o1 x.1 ((hP k x hx).lt)
  have hfs : ∀ j, j < n → defaultValue (ty j) = vp_V ((List.range n).map (fun j => defaultValue (ty j))) j := by
    intro j hj
    unfold vp_V
    simp [hj]
  have hP1 : va_P (zD Z) cm_vw (ws ++ [(zB Z + h.2.2.2.2.1, .inr (b, (List.range n).map (fun j => defaultValue (ty j))))]) H1 := by
    refine (hP.kept hk).app (fun k x hx => ?_)
    have hz2 : k < 1 := (List.getElem?_eq_some_iff.mp hx).1
    rw [show k = 0 by omega] at hx
    cases hx
    rw [← hHs]
    exact ⟨_, hvw, (u_born ty (cm_hts hcx args) (cm_lays hvw) hKn hkC e1 hty).to hfs⟩
  have hD1 : va_D (zA Z) (ws ++ [(zB Z + h.2.2.2.2.1, .inr (b, (List.range n).map (fun j => defaultValue (ty j))))]) := hD.push hP hHs.symm (by show zB Z ≤ _; omega)
  have hS1 : va_S (zA Z) s.heap H1 locs := ⟨Nat.le_trans hS.1 (by omega), fun x h1 h2 => (o1 x (Nat.lt_of_lt_of_le h1 hS.1)).trans (hS.2.1 x h1 h2), hS.2.2⟩
  have hR := cm_hr_mk (kd := (0, b)) (n := n) hP1 hD1 hwl h9 h6 hcell hout hscr hxs (fun h7 => by cases h7) ?_
  · have kk := k H1 locs (cells + 1) (slots + n) rls (.ref (zB Z + h.2.2.2.2.1) :: rst) hR hS1 hn hL ⟨cm_vr_cI (by omega), hs⟩ (by show _ ≤ zB Z + (h.2.2.2.2.2.1 + 1); omega) (by show _ ≤ CC + (h.2.2.2.2.2.1 + 1); omega) (by show _ ≤ SS + (h.2.2.2.2.2.2 + n); omega)
    rw [← hHs] at kk
    exact kk
  · refine ⟨cm_ua_eq, (C, T, n), hvw, by simp, fun j hj => ?_⟩
    unfold cm_fr
    have hj : j < n := hj
    by_cases h2 : cm_tc (T j).2.2.1 = 2
    · rw [if_pos h2]
      intro hlt
      have : (cm_mk h (0, b) n).2.1 h.2.2.2.2.1 (j : Int) = 400000 := by
        show cm_ua h.2.1 h.2.2.2.2.1 (fun _ => 400000) h.2.2.2.2.1 (j : Int) = 400000
        rw [cm_ua_eq]
      omega
    · rw [if_neg h2]
      refine ⟨0, ?_, ?_⟩
      · have hpd := hty j hj
        have h3 : cm_tc (T j).2.2.1 = 0 ∨ cm_tc (T j).2.2.1 = 1 := by
          unfold cm_tc at h2 ⊢
          split
          · exact Or.inl rfl
          · rename_i h4
            rw [if_neg h4] at h2
            split
            · exact Or.inr rfl
            · rename_i h5
              rw [if_neg h5] at h2
              exact absurd rfl h2
        have h4 : defaultValue (ty j) = .int 0 := by
          simp only at hpd
          rcases h3 with h3 | h3
          · rw [cm_tc_0 h3] at hpd
            have : ty j = .int := Option.some.inj (hpd.symm.trans (show parseFieldDescriptor "I" = some .int by decide +kernel))
            rw [this]; rfl
          · rw [cm_tc_1 h3] at hpd
            have : ty j = .boolean := Option.some.inj (hpd.symm.trans (show parseFieldDescriptor "Z" = some .boolean by decide +kernel))
            rw [this]; rfl
        simp [hj, h4]
      · show (0 : Int32).toInt = cm_ua h.2.2.1 h.2.2.2.2.1 (fun _ => 0) h.2.2.2.2.1 (j : Int)
        rw [cm_ua_eq]
        rfl
theorem so_newa (hx : p.tables.exec = Jvm.exec) (hb : c.code = cm_by y) (hcx : cm_cx Z s) (hml : c.maxLocals = cm_mL y) (hfr : 1 ≤ R.frames) (hlo : 100 ≤ R.locals) (hCC : CC ≤ R.cells) (hSS : SS ≤ R.slots) {t : ArrayType} {n : Int} (ht : (cm_at_ t).blt 9 = true) (he : h.2.2.2.2.1 = h.2.2.2.2.2.1) (h9 : h.2.2.2.2.1 < 99999) (h0 : 0 ≤ n ∧ n ≤ 100000) (hle : cm_hle (cm_mk h (cm_at_ t, n.toNat) n.toNat) hf) (hd : decode (cm_by y) pc = .ok (.newarray t, 2)) (k : cm_Go Z p l e R s m args below meth c Q CC SS y hf (pc + 2) L (.inr (.inr h.2.2.2.2.1) :: st) (cm_mk h (cm_at_ t, n.toNat) n.toNat)) : cm_Go Z p l e R s m args below meth c Q CC SS y hf pc L (.inl n :: st) h := by
  intro H locs cells slots rls rst hH hS hn hL hs hz hc hq
  refine cm_szW (fun hsz => ?_)
  have hHs := cm_size_eq hcx hH hS hz he hsz
  obtain ⟨jn, r, rfl, hjn, hs_1⟩ := cm_sr_i hs
  obtain ⟨ws, hP, hD, hwl, h5, h6, hcell, hout, hscr, hxs⟩ := hH
  have hle1 : h.2.2.2.2.2.1 + 1 ≤ hf.2.2.2.2.2.1 := hle.1
  have hle2 : h.2.2.2.2.2.2 + n.toNat ≤ hf.2.2.2.2.2.2 := hle.2
  have cn : jn.toNatClampNeg = n.toNat := by rw [← hjn]; rfl
  have hneg : ¬ jn < 0 := by rw [cm_ltI, hjn]; show ¬ n < 0; omega
  have key : ∀ (e' : va_E) (ty : FieldType) (cA0 : ClassId), newarray.typeOf t = ty → (Cond.arrayClass ty).before args s = true → n.toNat * componentBytes ty ≤ 536870912 → (∀ cA, s.vm.findClass ("[" ++ ty.toString) = some cA → cA = cA0) → (∀ H1 : Heap, H1[H.size]? = some (arrV cA0 n.toNat (fun _ => defaultValue ty)) → va_at (zD Z) cm_vw (H.size, e') H1) → cm_ce Z (cm_mk h (cm_at_ t, n.toNat) n.toNat) h.2.2.2.2.1 e' → W p l e R s m args below meth c H locs cells slots Q (F0 m pc rls (.int jn :: r)) := by
    intro e' ty cA0 hty harr hby hcA hat hce
    subst hty
    refine va_newaK hx hb harr rfl hd rfl hneg cn hby (by omega) (by omega) rfl fun H1 cA e1 z1 o1 hAr hNm => ?_
    have hcA1 := hcA cA hNm
    subst hcA1
    have hk : ∀ (k : Nat) (x : Nat × va_E), ws[k]? = some x → H1[x.1]? = H[x.1]? := fun k x hx => o1 x.1 ((hP k x hx).lt)
    have hP1 : va_P (zD Z) cm_vw (ws ++ [(zB Z + h.2.2.2.2.1, e')]) H1 := by
      refine (hP.kept hk).app (fun k x hx => ?_)
      have hz2 : k < 1 := (List.getElem?_eq_some_iff.mp hx).1
      rw [show k = 0 by omega] at hx
      cases hx
      rw [← hHs]
      exact hat H1 e1
    have hD1 : va_D (zA Z) (ws ++ [(zB Z + h.2.2.2.2.1, e')]) := hD.push hP hHs.symm (by show zB Z ≤ _; omega)
    have hS1 : va_S (zA Z) s.heap H1 locs := ⟨Nat.le_trans hS.1 (by omega), fun x h1 h2 => (o1 x (Nat.lt_of_lt_of_le h1 hS.1)).trans (hS.2.1 x h1 h2), hS.2.2⟩
    have hR := cm_hr_mk (kd := (cm_at_ t, n.toNat)) (n := n.toNat) hP1 hD1 hwl h9 h6 hcell hout hscr hxs (fun _ => by show n.toNat < 2147483648; omega) hce
    have kk := k H1 locs (cells + 1) (slots + n.toNat) rls (.ref (zB Z + h.2.2.2.2.1) :: r) hR hS1 hn hL ⟨cm_vr_cI (by omega), hs_1⟩ (by show _ ≤ zB Z + (h.2.2.2.2.2.1 + 1); omega) (by show _ ≤ CC + (h.2.2.2.2.2.1 + 1); omega) (by show _ ≤ SS + (h.2.2.2.2.2.2 + n.toNat); omega)
    rw [← hHs] at kk
    exact kk
  cases t with
  | int =>
    refine key (.inl (zI Z, n.toNat, .inl (fun _ => 0))) .int (zI Z) rfl (cm_w hcx args cm_in_aint rfl) (by show n.toNat * 4 ≤ _; omega) (fun cA hc1 => Option.some.inj (hc1.symm.trans (hcx.2.2.1.2 0 _ rfl).2)) (fun H1 e1 => e1) ⟨Or.inl ⟨rfl, cm_ua_eq⟩, fun j hj => ?_⟩
    show (0 : Int32).toInt = cm_ua h.2.2.1 h.2.2.2.2.1 (fun _ => 0) h.2.2.2.2.1 (j : Int)
    rw [cm_ua_eq]; rfl
  | boolean =>
    refine key (.inl (zO Z, n.toNat, .inl (fun _ => 0))) .boolean (zO Z) rfl (cm_w hcx args cm_in_abool rfl) (by show n.toNat * 1 ≤ _; omega) (fun cA hc1 => Option.some.inj (hc1.symm.trans (hcx.2.2.1.2 1 _ rfl).2)) (fun H1 e1 => e1) ⟨Or.inr ⟨rfl, cm_ua_eq⟩, fun j hj => ?_⟩
    show (0 : Int32).toInt = cm_ua h.2.2.1 h.2.2.2.2.1 (fun _ => 0) h.2.2.2.2.1 (j : Int)
    rw [cm_ua_eq]; rfl
  | long =>
    refine key (.inl (zJ Z, n.toNat, .inr (.inl (fun _ => 0)))) .long (zJ Z) rfl (cm_w hcx args cm_in_along rfl) (by show n.toNat * 8 ≤ _; omega) (fun cA hc1 => Option.some.inj (hc1.symm.trans (hcx.2.2.1.2 2 _ rfl).2)) (fun H1 e1 => e1) ⟨rfl, cm_ua_eq, fun j hj => ?_⟩
    show (0 : Int64) = cm_ua h.2.2.2.1 h.2.2.2.2.1 (fun _ => 0) h.2.2.2.2.1 (j : Int)
    rw [cm_ua_eq]
  | _ => cases ht
theorem so_anew (hx : p.tables.exec = Jvm.exec) (hb : c.code = cm_by y) (hown : s.vm.findClass (cm_cn (cm_ow y)) = some m.cls) (hcx : cm_cx Z s) (hml : c.maxLocals = cm_mL y) (hfr : 1 ≤ R.frames) (hlo : 100 ≤ R.locals) (hCC : CC ≤ R.cells) (hSS : SS ≤ R.slots) {i : Nat} {n : Int} (hcl : cm_cls.any (fun q => q.1 == cm_ow y && (q.2.1 == i && q.2.2.1 == 6)) = true) (he : h.2.2.2.2.1 = h.2.2.2.2.2.1) (h9 : h.2.2.2.2.1 < 99999) (h0 : 0 ≤ n ∧ n ≤ 100000) (hle : cm_hle (cm_mk h (4, n.toNat) n.toNat) hf) (hd : decode (cm_by y) pc = .ok (.anewarray i, 3)) (k : cm_Go Z p l e R s m args below meth c Q CC SS y hf (pc + 3) L (.inr (.inr h.2.2.2.2.1) :: st) (cm_mk h (4, n.toNat) n.toNat)) : cm_Go Z p l e R s m args below meth c Q CC SS y hf pc L (.inl n :: st) h := by
  intro H locs cells slots rls rst hH hS hn hL hs hz hc hq
  refine cm_szW (fun hsz => ?_)
  have hHs := cm_size_eq hcx hH hS hz he hsz
  obtain ⟨jn, r, rfl, hjn, hs_1⟩ := cm_sr_i hs
  have hcl2 : ∃ nn, cm_cls.any (fun q => q.1 == cm_ow y && (q.2.1 == i && (q.2.2.1 == 6 && q.2.2.2.1 == nn))) = true := by
    obtain ⟨⟨q1, q2, q3, q4, q5⟩, hm, hq1⟩ := List.any_eq_true.mp hcl
    refine ⟨q4, List.any_eq_true.mpr ⟨_, hm, ?_⟩⟩
    simp only [Bool.and_eq_true, beq_iff_eq] at hq1 ⊢
    exact ⟨hq1.1, hq1.2.1, hq1.2.2, trivial⟩
  obtain ⟨nn, hcl3⟩ := hcl2
  obtain ⟨C, T, hvw, hl1, hl2, hl3⟩ := cm_cl_inv hcl3
  cases hvw
  obtain ⟨ws, hP, hD, hwl, h5, h6, hcell, hout, hscr, hxs⟩ := hH
  have hle1 : h.2.2.2.2.2.1 + 1 ≤ hf.2.2.2.2.2.1 := hle.1
  have hle2 : h.2.2.2.2.2.2 + n.toNat ≤ hf.2.2.2.2.2.2 := hle.2
  have cn : jn.toNatClampNeg = n.toNat := by rw [← hjn]; rfl
  have hneg : ¬ jn < 0 := by rw [cm_ltI, hjn]; show ¬ n < 0; omega
  refine W.anew hx hb hown (cm_w hcx args hl1 rfl) (va_AO.use hcx.2.1) rfl hd rfl hneg (by rw [cn]; omega) (by omega) (by rw [cn]; omega) fun cA kA comp f1 f2 f3 f4 => ?_
  rw [cn]
  generalize hH1 : H.push ({ cls := cA, slots := Array.replicate n.toNat .null, vm := .none } : Cell) = H1
  have z1 : H1.size = H.size + 1 := by rw [← hH1, Array.size_push]
  have e1 : H1[H.size]? = some (arrV cA n.toNat (fun _ => .null)) := by rw [← hH1, Array.getElem?_push_size, ← arrV_new]
  have o1 : ∀ q : Nat, q < H.size → H1[q]? = H[q]? := fun q hq => by rw [← hH1, Array.getElem?_push, if_neg (Nat.ne_of_lt hq)]
  have hcA1 : cA = zR Z := by
    obtain ⟨kB, cB, g1, g2, g3, g4⟩ := (hcx.2.2.1.2 3 _ rfl).2
    exact Option.some.inj (f1.symm.trans g4)
  subst hcA1
  have hk : ∀ (k : Nat) (x : Nat × va_E), ws[k]? = some x → H1[x.1]? = H[x.1]? := fun k x hx => o1 x.1 ((hP k x hx).lt)
  have hP1 : va_P (zD Z) cm_vw (ws ++ [(zB Z + h.2.2.2.2.1, .inl (zR Z, n.toNat, .inr (.inr (.inr (.inr (fun _ => none))))))]) H1 := by
    refine (hP.kept hk).app (fun k x hx => ?_)
    have hz2 : k < 1 := (List.getElem?_eq_some_iff.mp hx).1
    rw [show k = 0 by omega] at hx
    cases hx
    rw [← hHs]
    exact e1
  have hD1 : va_D (zA Z) (ws ++ [(zB Z + h.2.2.2.2.1, .inl (zR Z, n.toNat, .inr (.inr (.inr (.inr (fun _ => none))))))]) := hD.push hP hHs.symm (by show zB Z ≤ _; omega)
  have hS1 : va_S (zA Z) s.heap H1 locs := ⟨Nat.le_trans hS.1 (by omega), fun x h1 h2 => (o1 x (Nat.lt_of_lt_of_le h1 hS.1)).trans (hS.2.1 x h1 h2), hS.2.2⟩
  have hR := cm_hr_mk (kd := (4, n.toNat)) (n := n.toNat) hP1 hD1 hwl h9 h6 hcell hout hscr hxs (fun h7 => by cases h7) ⟨rfl, cm_ua_eq, fun j hj hlt => by
    have : (cm_mk h (4, n.toNat) n.toNat).2.1 h.2.2.2.2.1 (j : Int) = 400000 := by
      show cm_ua h.2.1 h.2.2.2.2.1 (fun _ => 400000) h.2.2.2.2.1 (j : Int) = 400000
      rw [cm_ua_eq]
    omega⟩
  have kk := k H1 locs (cells + 1) (slots + n.toNat) rls (.ref (zB Z + h.2.2.2.2.1) :: r) hR hS1 hn hL ⟨cm_vr_cI (by omega), hs_1⟩ (by show _ ≤ zB Z + (h.2.2.2.2.2.1 + 1); omega) (by show _ ≤ CC + (h.2.2.2.2.2.1 + 1); omega) (by show _ ≤ SS + (h.2.2.2.2.2.2 + n.toNat); omega)
  rw [← hHs] at kk
  exact kk
end SON
