set_option maxHeartbeats 4000000 in
theorem cm_entryZ {p : Program} {s : State} {m : MethodId} {meth : Method} {c : Code} {b L : Nat} {xs : Nat → Int32} (C0 : lw_At p s m meth c b L xs) : ∃ Z : cm_Z, zB Z = s.heap.size ∧ zS Z = b ∧ zL Z = L ∧ zX Z = xs ∧ cm_cx Z s := by
  obtain ⟨hx, hb, hr, hml, hown, hts, hX, hbl, hlk, hgv⟩ := C0
  have hnar : ∀ w ∈ cm_nar, w.before #[Value.ref b] s = true := flat_of_before _ hgv
  have hA : ∀ a : Nat, a < s.heap.size → ¬ (fun q => s.heap.size ≤ q) a := fun a h1 h2 => Nat.not_le.mpr h1 h2
  obtain ⟨o1, o2, o3, o4, o5, o6⟩ := cm_okt1
  obtain ⟨k1, v1, hS1, hK1⟩ := vk_Sof (N := 3) (tm := cm_tm1) (len := cm_len) (byt := cm_byt) (A := fun q => s.heap.size ≤ q) cm_len_lt (fun i hi => hnar _ (o1 i hi)) (fun i hi => hnar _ (o2 i hi)) (fun i hi => hnar _ (o3 i hi)) (fun i hi => hnar _ (o4 i hi)) (fun i hi j hj => hnar _ (o5 i hi j hj)) (fun i j hi hj hne => (o6 i hi j hj hne).imp (hnar _) (hnar _)) hA
  obtain ⟨p1, p2, p3, p4, p5, p6⟩ := cm_okt2
  obtain ⟨k2, v2, hS2, hK2⟩ := vk_Sof (N := 3) (tm := cm_tm2) (len := cm_len) (byt := cm_byt) (A := fun q => s.heap.size ≤ q) cm_len_lt (fun i hi => hnar _ (p1 i hi)) (fun i hi => hnar _ (p2 i hi)) (fun i hi => hnar _ (p3 i hi)) (fun i hi => hnar _ (p4 i hi)) (fun i hi j hj => hnar _ (p5 i hi j hj)) (fun i j hi hj hne => (p6 i hi j hj hne).imp (hnar _) (hnar _)) hA
  obtain ⟨aI, hI1, hI2⟩ := cm_arr (hts (.arrayClass .int) (by decide +kernel))
  obtain ⟨aO, hO1, hO2⟩ := cm_arr (hts (.arrayClass .boolean) (by decide +kernel))
  obtain ⟨aJ, hJ1, hJ2⟩ := cm_arr (hts (.arrayClass .long) (by decide +kernel))
  have hAO : (Cond.arrayOver (.object RX6)).before #[Value.ref b] s = true := hts _ (by decide +kernel)
  obtain ⟨comp, aR, kR, r1, -, r3, r4, r5⟩ := Cond.arrayOver_spec hAO
  have hcls : ∀ c : Nat, ∃ q : ClassId × (Nat → Nat), ∀ z : vw_C, cm_vw[c]? = some z → u_Kn s z.1 z.2.1 z.2.2 q.1 q.2 := by
    intro c
    cases hc : cm_vw[c]? with
    | none => exact ⟨(0, fun _ => 0), fun z hz => by cases hz⟩
    | some z =>
      obtain ⟨C, T, N⟩ := z
      have hlt : c < 10 := (List.getElem?_eq_some_iff.mp hc).1
      have h2 := cm_ins c hlt
      rw [hc] at h2
      have h3 : Cond.instantiable C N ∈ lw_tbl := of_decide_eq_true (Option.some.inj h2)
      obtain ⟨cC, iS, h4⟩ := u_known (ws := lw_tbl.filter cm_two) (fun w hw => hts w (List.mem_filter.mp hw).1) (cm_lays hc) (hts _ h3)
      exact ⟨(cC, iS), fun z hz => by cases hz; exact h4⟩
  obtain ⟨dd, hdd⟩ := Classical.axiomOfChoice hcls
  refine ⟨((s.heap.size, b, L), xs, ((fun c => (dd c).1), (fun c => (dd c).2)), (aI, aO, aJ, aR), ((fun i => if i < 3 then k1 i else k2 (i - 3)), (fun i => if i < 3 then v1 i else v2 (i - 3)))), rfl, rfl, rfl, rfl, ?_⟩
  refine ⟨fun w hw h2 => cm_two_at (State.WarmedH.refl s) h2 (hts w hw), va_AO.of hAO, ⟨fun c q hq => hdd c q hq, ?_⟩, hX, hbl, Nat.le_refl _, ?_, ?_, ?_, ?_, ⟨?_, ?_⟩, ⟨?_, ?_⟩, ?_⟩
  · intro k q hq
    rcases k with _ | _ | _ | _ | k
    · cases hq; exact ⟨hI1, hI2⟩
    · cases hq; exact ⟨hO1, hO2⟩
    · cases hq; exact ⟨hJ1, hJ2⟩
    · cases hq; exact ⟨fun n z => ⟨fun k h => (by cases h), kR, r3, comp, r4⟩, kR, comp, r3, r4, r1, r5⟩
    · cases hq
  · exact vx_Zqof (hts _ (by decide +kernel)) (hts _ (by decide +kernel)) (hnar _ (by decide +kernel)) hA
  · exact vx_Zqof (hts _ (by decide +kernel)) (hts _ (by decide +kernel)) (hnar _ (by decide +kernel)) hA
  · intro q hq
    obtain ⟨h1, h2⟩ := cm_strs_in q hq
    obtain ⟨a, cc, cell, k, h3, -⟩ := Cond.exactly_spec (args := #[Value.ref b]) (first := s) (o := none) (s := s) (idx := []) (hnar _ h2)
    exact ⟨a, vk_R.of (A := #[Value.ref b]) (hts _ h1) h3⟩
  · intro i q hq
    have hi : i < 6 := (List.getElem?_eq_some_iff.mp hq).1
    have h1 := cm_lits_in q (List.mem_of_getElem? hq)
    have h2 := cm_lits_tm i hi
    rw [hq] at h2
    have h2 : Term.string q.1 q.2.1 = (if i < 3 then cm_tm1 i else cm_tm2 (i - 3)) := Option.some.inj h2
    show vk_R q.1 q.2.1 q.2.2 (if i < 3 then k1 i else k2 (i - 3)) s
    by_cases h3 : i < 3
    · rw [if_pos h3] at h2 ⊢
      exact vk_R.of (A := #[Value.ref b]) (hts _ h1) (by rw [h2]; exact hK1 i h3)
    · rw [if_neg h3] at h2 ⊢
      exact vk_R.of (A := #[Value.ref b]) (hts _ h1) (by rw [h2]; exact hK2 (i - 3) (by omega))
  · refine ⟨fun i hi => ?_, fun i j hi hj h => ?_⟩
    · have h1 := hS1.1 i hi
      have ek : (if i < 3 then k1 i else k2 (i - 3)) = k1 i := if_pos hi
      have ev : (if i < 3 then v1 i else v2 (i - 3)) = v1 i := if_pos hi
      show va_O "java/lang/String" (if i < 3 then k1 i else k2 (i - 3)) _ s s.heap ∧ va_OF "java/lang/String" "coder" "B" (.int 0) (if i < 3 then k1 i else k2 (i - 3)) _ s s.heap ∧ va_OF "java/lang/String" "value" "[B" (.ref (if i < 3 then v1 i else v2 (i - 3))) (if i < 3 then k1 i else k2 (i - 3)) _ s s.heap ∧ va_T .byte (if i < 3 then v1 i else v2 (i - 3)) _ _ _ s s.heap
      rw [ek, ev]
      exact h1
    · have h : (if i < 3 then k1 i else k2 (i - 3)) = (if j < 3 then k1 j else k2 (j - 3)) := h
      rw [if_pos hi, if_pos hj] at h
      exact hS1.2 i j hi hj h
  · refine ⟨fun i hi => ?_, fun i j hi hj h => ?_⟩
    · have h1 := hS2.1 i hi
      simp only [show ¬ i + 3 < 3 by omega, if_false, Nat.add_sub_cancel]
      exact h1
    · simp only [show ¬ i + 3 < 3 by omega, show ¬ j + 3 < 3 by omega, if_false, Nat.add_sub_cancel] at h
      exact hS2.2 i j hi hj h
  · exact va_Zof (hts _ (by decide +kernel)) (hts _ (by decide +kernel)) (va_eqt (hnar _ (by decide +kernel))) hA
  · exact va_Zqof (hts _ (by decide +kernel)) (hts _ (by decide +kernel)) (hnar _ (by decide +kernel)) hA
  · exact va_Nc.of (args := #[Value.ref b]) (hnar _ (by decide +kernel))
/-- the heap at the law's entry -/
def cm_h0 (L : Nat) (I : Int → Int) : cm_H := (fun a => if a = 100000 then (1, L) else (9, 0), fun _ _ => 400000, fun a j => if a = 100000 then I j else 0, fun _ _ => 0, 0, 0, 0)
def cm_xi (xs : Nat → Int32) (j : Int) : Int := (xs j.toNat).toInt
/-- the claim, out of a run of the plain machine -/
theorem cm_whole {p : Program} {e : Env} {s : State} {m : MethodId} {below : List Frame} {meth : Method} {c : Code} (l : Launch) (hflags : l.flags = flags0) {b L : Nat} {xs : Nat → Int32} (hL : L ≤ 3072) (C0 : lw_At p s m meth c b L xs) {hf : cm_H}
    (hrun : cm_x 293 0 (cm_en [.inr (.inr 100000)] 8) [] (cm_h0 L (cm_xi xs)) = some (.inl (some (.inl 1)), hf)) (hnc : hf.2.2.2.2.2.1 ≤ 601024) (hns : hf.2.2.2.2.2.2 ≤ 7293034) :
    W p l e room_1 s m #[Value.ref b] below meth c s.heap [] 0 0 (lw_Z below #[Value.ref b] s) (entryFrame m ([Value.ref b] : List Value).toArray 8) := by
  obtain ⟨n, hrn⟩ := cm_x_run hrun
  obtain ⟨Z, e1, e2, e3, e4, hcx⟩ := cm_entryZ C0
  obtain ⟨hx, hb, hr, hml, hown, hts, hX, hbl, hlk, hgv⟩ := C0
  have w1 := cm_law_b1
  have w2 := cm_law_b2
  have w3 := cm_law_b3
  obtain ⟨w4, w5⟩ := cm_law_b4
  obtain ⟨w6, w7⟩ := cm_law_b5
  have w8 := cm_law_b6
  have w10 := cm_law_b7
  have hP := cm_all (Z := Z) (cm_stk hflags) cm_hs_ok n 293 0 _ [] _ _ hf hrn (by omega) (fun _ => ⟨_, rfl⟩)
  rw [lg_entry_eq]
  refine hP p e room_1 s m #[Value.ref b] below meth c (lw_Z below #[Value.ref b] s) 601024 7293034 ⟨hx, hb.trans w1.symm, hml.trans w2.symm, by rw [w3]; exact hown, hcx, fun h => absurd h w10, w4, w5, by rw [w6]; exact Nat.le_refl _, by rw [w7]; exact Nat.le_refl _⟩ ⟨?_, ?_, ?_, ?_⟩ s.heap [] 0 0 _ [] ?_ va_S.rf ?_ ?_ trivial ?_ ?_ ?_
  · intro v hv H locs cells slots rls rst pc hH hS h1 h2 hq
    cases hv
    obtain ⟨i, rfl, hi, hd, -⟩ := hq
    have hi1 : i = 1 := by rw [cm_ieq, hi]; rfl
    subst hi1
    rw [w1] at hd
    have hfl : ∀ q ∈ locs, s.heap.size ≤ q.base := fun q hq => by
      have h3 := hS.2.2 q hq
      have h4 : zB Z ≤ q.base := h3
      rw [e1] at h4
      exact h4
    exact W.forget (locs := []) (L := locs) hfl (W.widen h1 h2 (lw_ret hx hb hr hlk hd))
  · intro x hv; cases hv
  · intro x hv; cases hv
  · intro pc x t L h hn
    rw [w8] at hn
    cases hn
  · refine ⟨[], (fun k q hq => by cases hq), ⟨(fun i j p q hp => by cases hp), (fun k q hq => by cases hq)⟩, rfl, (by show 0 ≤ 100000; omega), Nat.le_refl _, fun k hk => absurd hk (Nat.not_lt_zero _), fun a _ ha => ?_, ?_, fun j hj => ?_, fun a ha => ?_⟩
    · show (if a = 100000 then (1, L) else (9, 0)) = (9, 0)
      rw [if_neg ha]
    · show (if 100000 = 100000 then (1, L) else (9, 0)) = (1, zL Z)
      rw [if_pos rfl, e3]
    · show (zX Z j).toInt = (if 100000 = 100000 then cm_xi xs (j : Int) else 0)
      rw [if_pos rfl, e4]
      rfl
    · have ha : ((if a = 100000 then (1, L) else (9, 0)) : Nat × Nat).1 = 1 := ha
      show ((if a = 100000 then (1, L) else (9, 0)) : Nat × Nat).2 < 2147483648
      by_cases h : a = 100000
      · rw [if_pos h]; show L < 2147483648; omega
      · rw [if_neg h] at ha; cases ha
  · rw [w2]; rfl
  · refine cm_entry ⟨?_, trivial⟩ (fun v hv => ?_) (by decide)
    · show (if 100000 < 100000 then Value.ref b = .ref (zB Z + 100000) else if 100000 = 100000 then Value.ref b = .ref (zS Z) else if 100000 < 300000 then ∃ k, k < 6 ∧ k % 3 = 100000 - 200000 ∧ Value.ref b = .ref (zK Z k) else ∃ q', Value.ref b = .ref q')
      rw [if_neg (by omega), if_pos rfl, e2]
    · rw [List.mem_singleton] at hv
      rw [hv]
      rfl
  · show s.heap.size + 0 ≤ zB Z + 0
    rw [e1]
    exact Nat.le_refl _
  · show 0 + hf.2.2.2.2.2.1 ≤ 601024 + 0
    omega
  · show 0 + hf.2.2.2.2.2.2 ≤ 7293034 + 0
    omega
