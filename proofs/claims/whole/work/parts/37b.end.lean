def cm_okth (q : Nat × Nat × Nat × Nat × Nat × Nat × Nat) : Bool := cm_ow q.1 == 8 && decide (decode (cm_by q.1) q.2.1 = .ok (.new q.2.2.2.1, 3)) && decide (decode (cm_by q.1) (q.2.1 + 3) = .ok (.dup, 1)) && (match q.2.2.1 with
  | 0 => decide (decode (cm_by q.1) (q.2.1 + 4) = .ok (.ldc q.2.2.2.2.1, 2)) && decide (decode (cm_by q.1) (q.2.1 + 6) = .ok (.invokespecial q.2.2.2.2.2.1, 3)) && decide (decode (cm_by q.1) (q.2.1 + 9) = .ok (.athrow, 1))
  | _ => decide (decode (cm_by q.1) (q.2.1 + 4) = .ok (.ldc_w q.2.2.2.2.1, 3)) && decide (decode (cm_by q.1) (q.2.1 + 7) = .ok (.invokespecial q.2.2.2.2.2.1, 3)) && decide (decode (cm_by q.1) (q.2.1 + 10) = .ok (.athrow, 1))) && cm_strs.any (fun z => z.1 == RX8 && z.2.1 == q.2.2.2.2.1) && ((q.2.2.2.2.2.2 == 0 && q.2.2.2.2.2.1 == 175) || (q.2.2.2.2.2.2 == 1 && q.2.2.2.2.2.1 == 90)) && cm_xls.any (fun z => z.1 == 8 && (z.2.1 == q.2.2.2.1 && z.2.2.1 == q.2.2.2.2.2.2)) && (6).ble (cm_fm q.1) && (cm_hh q.1).isEmpty
set_option maxRecDepth 100000 in
theorem cm_ths_ok : cm_ths.all cm_okth = true := by decide +kernel
set_option maxRecDepth 100000 in
theorem cm_atX_0 : ∀ w ∈ cm_atXn RX8 175 "java/util/NoSuchElementException" 13 prog_27_method_4_code "java/lang/RuntimeException" ["java/lang/Exception"], w ∈ lw_tbl ∧ cm_two w = true := by decide +kernel
set_option maxRecDepth 100000 in
theorem cm_atX_1 : ∀ w ∈ cm_atXn RX8 90 "java/lang/IllegalArgumentException" 7 prog_16_method_2_code "java/lang/RuntimeException" ["java/lang/Exception"], w ∈ lw_tbl ∧ cm_two w = true := by decide +kernel
theorem cm_in_x0 : Jvm.Cond.initialized "java/util/NoSuchElementException" ∈ lw_tbl := by decide +kernel
theorem cm_in_x1 : Jvm.Cond.initialized "java/lang/IllegalArgumentException" ∈ lw_tbl := by decide +kernel
theorem cm_hr_ex {Z : cm_Z} {h : cm_H} {H H1 : Heap} (hH : cm_hr Z h H) (hk : ∀ q : Nat, q < H.size → H1[q]? = H[q]?) : cm_hr Z (cm_ex h) H1 := by
  obtain ⟨ws, hP, hD, hwl, h5, h6, hcell, hout, hscr, hxs⟩ := hH
  exact ⟨ws, hP.kept (fun k q hq => hk q.1 ((hP k q hq).lt)), hD, hwl, h5, Nat.le_succ_of_le h6, fun k hkl => (hcell k hkl).elim fun e he => ⟨e, he.1, cm_ce_same rfl rfl rfl rfl he.2⟩, hout, hscr, hxs⟩
theorem cm_vot {w : Cond} (h : cm_two w = true) : vx_ot w = true := by
  unfold vx_ot
  rcases cm_two_ot h with h1 | ⟨ty, rfl⟩
  · rw [h1]; rfl
  · rfl
section ENDS
variable {Z : cm_Z} {p : Program} {l : Launch} {e : Env} {R : Room} {s : State} {m : MethodId} {args : Array Value} {below : List Frame} {meth : Method} {c : Code} {CC SS y pc : Nat} {hf h : cm_H} {L : cm_L} {st : List cm_V} {r : Option cm_V ⊕ Nat}
theorem so_throw (hx : p.tables.exec = Jvm.exec) (hb : c.code = cm_by y) (hml : c.maxLocals = cm_mL y) (hown : s.vm.findClass (cm_cn (cm_ow y)) = some m.cls) (hcx : cm_cx Z s) (hl : l.stackTraces = false) (hlocks : meth.locks = false) (hexc : cm_hh y = [] → ∀ x ∈ c.exceptionTable.toList, False) (hfm : cm_fm y ≤ R.frames) (hlo : 100 ≤ R.locals) (hCC : CC ≤ R.cells) (hSS : SS ≤ R.slots) {i x : Nat} (hth : cm_ths.any (fun q => q.1 == y && (q.2.1 == pc && (q.2.2.2.1 == i && q.2.2.2.2.2.2 == x))) = true) (hr : r = .inr x) (hfe : hf = cm_ex h) :
    cm_Go Z p l e R s m args below meth c (vx_MQ below (cm_Qc Z hf r) (cm_XC Z hf r) args s CC SS (zA Z)) CC SS y hf pc L [] h := by
  intro H locs cells slots rls rst hH hS hn hL hs hz hc hq
  have hrst := cm_sr_nil hs
  subst hrst
  obtain ⟨⟨q1, q2, q3, q4, q5, q6, q7⟩, hm, hq1⟩ := List.any_eq_true.mp hth
  simp only [Bool.and_eq_true, beq_iff_eq] at hq1
  obtain ⟨rfl, rfl, rfl, rfl⟩ := hq1
  have hok := List.all_eq_true.mp cm_ths_ok _ hm
  unfold cm_okth at hok
  simp only [Bool.and_eq_true, beq_iff_eq, decide_eq_true_eq, Bool.or_eq_true, Nat.ble_eq] at hok
  obtain ⟨⟨⟨⟨⟨⟨⟨⟨o1, o2⟩, o3⟩, o4⟩, o5⟩, o6⟩, o7⟩, o8⟩, o9⟩ := hok
  have hhh : cm_hh q1 = [] := by simpa using o9
  have hown8 : s.vm.findClass RX8 = some m.cls := by rw [o1] at hown; exact hown
  obtain ⟨⟨t1, t2, t3⟩, tm, tq⟩ := List.any_eq_true.mp o5
  simp only [Bool.and_eq_true, beq_iff_eq] at tq
  obtain ⟨rfl, rfl⟩ := tq
  obtain ⟨sa, hsa⟩ := hcx.2.2.2.2.2.2.2.2.1 _ tm
  obtain ⟨⟨u1, u2, u3, u4⟩, um, uq⟩ := List.any_eq_true.mp o7
  simp only [Bool.and_eq_true, beq_iff_eq] at uq
  obtain ⟨rfl, rfl, rfl⟩ := uq
  have hxl := List.mem_of_getElem? (of_decide_eq_true (List.all_eq_true.mp cm_xls_ok _ um))
  have hini : Jvm.Cond.initialized (cm_xn u3) ∈ lw_tbl := by
    rcases o6 with ⟨h1, -⟩ | ⟨h1, -⟩
    · subst h1; exact cm_in_x0
    · subst h1; exact cm_in_x1
  have hc2 : cells + 1 ≤ CC := by rw [hfe] at hc; have : cells + (h.2.2.2.2.2.1 + 1) ≤ CC + h.2.2.2.2.2.1 := hc; omega
  have hs2 : slots + 6 ≤ SS := by rw [hfe] at hq; have : slots + (h.2.2.2.2.2.2 + 6) ≤ SS + h.2.2.2.2.2.2 := hq; omega
  have hXC : ∀ t : State, s.vm.Alike t.vm → H.size ≤ t.heap.size → (∀ q : Nat, q < H.size → t.heap[q]? = H[q]?) → cm_XC Z hf r (cm_xn u3) s t := by
    intro t _ hz1 hk1
    refine ⟨⟨u3, hr, rfl⟩, by rw [hfe]; exact cm_hr_ex hH hk1, Nat.le_trans hS.1 hz1, fun q h1 h2 => ?_⟩
    rw [hk1 q (Nat.lt_of_lt_of_le h1 hS.1)]
    exact hS.2.1 q h1 h2
  have hsz : rls.size = c.maxLocals := (cm_lr_size hL).trans (hn.trans hml.symm)
  have d4 : ∃ wd, ((wd = 2 ∧ decode (cm_by q1) (q2 + 4) = .ok (.ldc t2, 2)) ∨ (wd = 3 ∧ decode (cm_by q1) (q2 + 4) = .ok (.ldc_w t2, 3))) ∧ decode (cm_by q1) (q2 + 4 + wd) = .ok (.invokespecial q6, 3) ∧ decode (cm_by q1) (q2 + 4 + wd + 3) = .ok (.athrow, 1) := by
    rcases q3 with _ | q3
    · simp only [Bool.and_eq_true, decide_eq_true_eq] at o4
      exact ⟨2, Or.inl ⟨rfl, o4.1.1⟩, o4.1.2, o4.2⟩
    · simp only [Bool.and_eq_true, decide_eq_true_eq] at o4
      exact ⟨3, Or.inr ⟨rfl, o4.1.1⟩, o4.1.2, o4.2⟩
  obtain ⟨wd, d4, d6, d9⟩ := d4
  have fin : ∀ (ix : Nat) (rx : ByteArray), decode rx 0 = .ok (.aload_n 0, 1) → decode rx 1 = .ok (.aload_n 1, 1) → decode rx 2 = .ok (.invokespecial ix, 3) → decode rx 5 = .ok (.return_, 1) → Bundle.fit (cm_xn u3) = true → (∀ w ∈ cm_atXn RX8 q6 (cm_xn u3) ix rx "java/lang/RuntimeException" ["java/lang/Exception"], w ∈ lw_tbl ∧ cm_two w = true) → W p l e R s m args below meth c H locs cells slots (vx_MQ below (cm_Qc Z hf r) (cm_XC Z hf r) args s CC SS (zA Z)) (F0 m q2 rls []) := by
    intro ix rx x0 x1 x2 x5 hfit hat
    have hgood : ∀ w ∈ Jvm.Cond.classLink RX8 u2 (cm_xn u3) :: Jvm.Cond.initialized (cm_xn u3) :: cm_atXn RX8 q6 (cm_xn u3) ix rx "java/lang/RuntimeException" ["java/lang/Exception"], vx_ot w = true := by
      intro w hw
      rcases List.mem_cons.mp hw with rfl | hw
      · rfl
      · rcases List.mem_cons.mp hw with rfl | hw
        · rfl
        · exact cm_vot (hat w hw).2
    exact cm_throwX (Y := "java/lang/RuntimeException") (r := ["java/lang/Exception"]) hx hb hl x0 x1 x2 x5 hown8 hfit (by decide +kernel) (by decide +kernel) (cm_w hcx args hxl rfl) (cm_w hcx args hini rfl) hsa (fun w hw => cm_w hcx args (hat w hw).1 (hat w hw).2) hgood hcx.2.2.2.2.2.2.1 hcx.2.2.2.2.2.2.2.1 hS hsz o2 o3 d4 d6 d9 (fun z hz => (hexc hhh z hz).elim) (by show 1 + 1 + 3 < _; omega) (by show 13 * (1 + 1 + 1) + 43 ≤ _; omega) (by omega) (by omega) hlocks hXC (fun z hz => hS.2.2 z hz) hc2 hs2
  rcases o6 with ⟨h1, h2⟩ | ⟨h1, h2⟩
  · subst h1; subst h2
    exact fin 13 prog_27_method_4_code (by decide +kernel) (by decide +kernel) (by decide +kernel) (by decide +kernel) (by decide +kernel) cm_atX_0
  · subst h1; subst h2
    exact fin 7 prog_16_method_2_code (by decide +kernel) (by decide +kernel) (by decide +kernel) (by decide +kernel) (by decide +kernel) cm_atX_1
/-- the end of a method with an answer -/
def cm_rq (y : Nat) (v : Option cm_V) (rst : List Value) (pc : Nat) : Prop := match v with
  | none => rst = [] ∧ decode (cm_by y) pc = .ok (.return_, 1) ∧ cm_rt y = none
  | some (.inl x) => ∃ i : Int32, rst = [.int i] ∧ i.toInt = x ∧ decode (cm_by y) pc = .ok (.ireturn, 1) ∧ (cm_rt y = some .int ∨ (cm_rt y = some .boolean ∧ (x = 0 ∨ x = 1)))
  | some (.inr (.inl x)) => rst = [.long x] ∧ decode (cm_by y) pc = .ok (.lreturn, 1) ∧ cm_rt y = some .long
  | _ => False
theorem so_ret (hx : p.tables.exec = Jvm.exec) (hb : c.code = cm_by y) (hlocks : meth.locks = false) (hrt : meth.sig.returnType = cm_rt y) {v : Option cm_V} (hr : r = .inl v) {H : Heap} {locs : List Loc} {cells slots : Nat} {rls : Array Slot} {rst : List Value} (hH : cm_hr Z hf H) (hS : va_S (zA Z) s.heap H locs) (h1 : cells ≤ CC) (h2 : slots ≤ SS) (hq : cm_rq y v rst pc) : W p l e R s m args below meth c H locs cells slots (vx_MQ below (cm_Qc Z hf r) (cm_XC Z hf r) args s CC SS (zA Z)) (F0 m pc rls rst) := by
  subst hr
  refine vx_ret (W.widen h1 h2 ?_)
  rcases v with _ | x | x | x
  · obtain ⟨rfl, hd, h3⟩ := hq
    exact W.vret hx hb (hrt.trans h3) (fun t ht _ => ⟨rfl, by rw [ht]; exact hH, hS.F ht⟩) (fun q hq => hS.2.2 q hq) hd hlocks
  · obtain ⟨i, rfl, hi, hd, h3⟩ := hq
    rcases h3 with h3 | ⟨h3, h4⟩
    · exact W.iret hx hb (hrt.trans h3) (fun t ht _ => ⟨⟨_, rfl, _, rfl, hi⟩, by rw [ht]; exact hH, hS.F ht⟩) (fun q hq => hS.2.2 q hq) hd hlocks
    · refine W.zret hx hb (hrt.trans h3) ?_ (fun t ht _ => ⟨⟨_, rfl, _, rfl, hi⟩, by rw [ht]; exact hH, hS.F ht⟩) (fun q hq => hS.2.2 q hq) hd hlocks
      have hj2 : i = 0 ∨ i = 1 := by
        rcases h4 with h4 | h4
        · exact Or.inl (by rw [cm_ieq, hi, h4]; rfl)
        · exact Or.inr (by rw [cm_ieq, hi, h4]; rfl)
      rcases hj2 with rfl | rfl <;> rfl
  · obtain ⟨rfl, hd, h3⟩ := hq
    exact W.lret hx hb (hrt.trans h3) (fun t ht _ => ⟨⟨_, rfl, rfl⟩, by rw [ht]; exact hH, hS.F ht⟩) (fun q hq => hS.2.2 q hq) hd hlocks
  · exact hq.elim
theorem so_exc (hlocks : meth.locks = false) (hexc : ∀ x ∈ c.exceptionTable.toList, False) {x : Nat} (hr : r = .inr x) : cm_GX Z p l e R s m args below meth c (vx_MQ below (cm_Qc Z hf r) (cm_XC Z hf r) args s CC SS (zA Z)) CC SS y hf pc L x hf := by
  intro H locs cells slots rls rest q ce hH hS hn hL hz hc hq h1 h2 h3
  exact vx_out (fun z hz => (hexc z hz).elim) hlocks h1 h2 h3 (fun t ht _ => ⟨⟨x, hr, rfl⟩, by rw [ht]; exact hH, hS.F ht⟩) (fun z hz => hS.2.2 z hz) (by omega) (by omega)
end ENDS
