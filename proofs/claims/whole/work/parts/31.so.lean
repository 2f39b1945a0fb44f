/-- from here on, with any heap and frame that are as told: the machine comes to Q -/
def cm_Go (Z : cm_Z) (p : Program) (l : Launch) (e : Env) (R : Room) (s : State) (m : MethodId) (args : Array Value) (below : List Frame) (meth : Method) (c : Code) (Q : State → Prop) (CC SS y : Nat) (hf : cm_H) (pc : Nat) (L : cm_L) (st : List cm_V) (h : cm_H) : Prop :=
  ∀ (H : Heap) (locs : List Loc) (cells slots : Nat) (rls : Array Slot) (rst : List Value), cm_hr Z h H → va_S (zA Z) s.heap H locs → L.length = cm_mL y → cm_lr Z L rls → cm_sr Z st rst → s.heap.size + cells ≤ zB Z + h.2.2.2.2.2.1 → cells + hf.2.2.2.2.2.1 ≤ CC + h.2.2.2.2.2.1 → slots + hf.2.2.2.2.2.2 ≤ SS + h.2.2.2.2.2.2 → W p l e R s m args below meth c H locs cells slots Q (F0 m pc rls rst)
theorem cm_ofI {n : Int} (h : -2147483648 ≤ n) (h' : n < 2147483648) : (Int32.ofInt n).toInt = n := by rw [Int32.toInt_ofInt, cm_wr_b, cm_wr_id h h']
section SO
variable {Z : cm_Z} {p : Program} {l : Launch} {e : Env} {R : Room} {s : State} {m : MethodId} {args : Array Value} {below : List Frame} {meth : Method} {c : Code} {Q : State → Prop} {CC SS y pc : Nat} {hf h : cm_H} {L : cm_L} {st : List cm_V}
theorem so_iconst (hx : p.tables.exec = Jvm.exec) (hb : c.code = cm_by y) {n : Int} (hv : -1 ≤ n ∧ n ≤ 5) (hd : decode (cm_by y) pc = .ok (.iconst n, 1)) (k : cm_Go Z p l e R s m args below meth c Q CC SS y hf (pc + 1) L (.inl n :: st) h) : cm_Go Z p l e R s m args below meth c Q CC SS y hf pc L st h := by
  intro H locs cells slots rls rst hH hS hn hL hs hz hc hq
  exact lv_iconst hx hb hd rfl (k H locs cells slots rls _ hH hS hn hL ⟨⟨_, rfl, cm_ofI (by omega) (by omega)⟩, hs⟩ hz hc hq)
theorem so_bipush (hx : p.tables.exec = Jvm.exec) (hb : c.code = cm_by y) {n : Int} (hv : -128 ≤ n ∧ n ≤ 127) (hd : decode (cm_by y) pc = .ok (.bipush n, 2)) (k : cm_Go Z p l e R s m args below meth c Q CC SS y hf (pc + 2) L (.inl n :: st) h) : cm_Go Z p l e R s m args below meth c Q CC SS y hf pc L st h := by
  intro H locs cells slots rls rst hH hS hn hL hs hz hc hq
  refine lv_bipush hx hb hd rfl (k H locs cells slots rls _ hH hS hn hL ⟨⟨_, rfl, ?_⟩, hs⟩ hz hc hq)
  rw [Int8.toInt_toInt32, Int8.toInt_ofInt, Int.bmod_def]
  simp only [show (((2 ^ 8 : Nat) : Int)) = 256 by decide]
  split <;> omega
theorem so_sipush (hx : p.tables.exec = Jvm.exec) (hb : c.code = cm_by y) {n : Int} (hv : -32768 ≤ n ∧ n ≤ 32767) (hd : decode (cm_by y) pc = .ok (.sipush n, 3)) (k : cm_Go Z p l e R s m args below meth c Q CC SS y hf (pc + 3) L (.inl n :: st) h) : cm_Go Z p l e R s m args below meth c Q CC SS y hf pc L st h := by
  intro H locs cells slots rls rst hH hS hn hL hs hz hc hq
  refine lv_sipush hx hb hd rfl (k H locs cells slots rls _ hH hS hn hL ⟨⟨_, rfl, ?_⟩, hs⟩ hz hc hq)
  rw [Int16.toInt_toInt32, Int16.toInt_ofInt, Int.bmod_def]
  simp only [show (((2 ^ 16 : Nat) : Int)) = 65536 by decide]
  split <;> omega
theorem so_lconst (hx : p.tables.exec = Jvm.exec) (hb : c.code = cm_by y) {n : Fin 2} (hd : decode (cm_by y) pc = .ok (.lconst n, 1)) (k : cm_Go Z p l e R s m args below meth c Q CC SS y hf (pc + 1) L (.inr (.inl (Int64.ofNat n.val)) :: st) h) : cm_Go Z p l e R s m args below meth c Q CC SS y hf pc L st h := by
  intro H locs cells slots rls rst hH hS hn hL hs hz hc hq
  exact lv_lconst hx hb hd rfl (k H locs cells slots rls _ hH hS hn hL ⟨rfl, hs⟩ hz hc hq)
theorem so_iload (hx : p.tables.exec = Jvm.exec) (hb : c.code = cm_by y) {i : Nat} {x : Int} (hl : L[i]? = some (some (.inl x))) (hd : decode (cm_by y) pc = .ok (.iload i, 2)) (k : cm_Go Z p l e R s m args below meth c Q CC SS y hf (pc + 2) L (.inl x :: st) h) : cm_Go Z p l e R s m args below meth c Q CC SS y hf pc L st h := by
  intro H locs cells slots rls rst hH hS hn hL hs hz hc hq
  obtain ⟨v, h1, h2⟩ := cm_lr_at hL hl
  obtain ⟨j, rfl, hj⟩ := cm_vr_i h2
  exact lv_iload hx hb hd h1 (k H locs cells slots rls _ hH hS hn hL ⟨h2, hs⟩ hz hc hq)
theorem so_iload_n (hx : p.tables.exec = Jvm.exec) (hb : c.code = cm_by y) {i : Fin 4} {x : Int} (hl : L[i.val]? = some (some (.inl x))) (hd : decode (cm_by y) pc = .ok (.iload_n i, 1)) (k : cm_Go Z p l e R s m args below meth c Q CC SS y hf (pc + 1) L (.inl x :: st) h) : cm_Go Z p l e R s m args below meth c Q CC SS y hf pc L st h := by
  intro H locs cells slots rls rst hH hS hn hL hs hz hc hq
  obtain ⟨v, h1, h2⟩ := cm_lr_at hL hl
  obtain ⟨j, rfl, hj⟩ := cm_vr_i h2
  exact lv_iload_n hx hb hd rfl h1 (k H locs cells slots rls _ hH hS hn hL ⟨h2, hs⟩ hz hc hq)
theorem so_lload (hx : p.tables.exec = Jvm.exec) (hb : c.code = cm_by y) {i : Nat} {x : Int64} (hl : L[i]? = some (some (.inr (.inl x)))) (hd : decode (cm_by y) pc = .ok (.lload i, 2)) (k : cm_Go Z p l e R s m args below meth c Q CC SS y hf (pc + 2) L (.inr (.inl x) :: st) h) : cm_Go Z p l e R s m args below meth c Q CC SS y hf pc L st h := by
  intro H locs cells slots rls rst hH hS hn hL hs hz hc hq
  obtain ⟨v, h1, h2⟩ := cm_lr_at hL hl
  have e := cm_vr_l h2
  subst e
  exact lv_lload hx hb hd h1 (k H locs cells slots rls _ hH hS hn hL ⟨h2, hs⟩ hz hc hq)
theorem so_lload_n (hx : p.tables.exec = Jvm.exec) (hb : c.code = cm_by y) {i : Fin 4} {x : Int64} (hl : L[i.val]? = some (some (.inr (.inl x)))) (hd : decode (cm_by y) pc = .ok (.lload_n i, 1)) (k : cm_Go Z p l e R s m args below meth c Q CC SS y hf (pc + 1) L (.inr (.inl x) :: st) h) : cm_Go Z p l e R s m args below meth c Q CC SS y hf pc L st h := by
  intro H locs cells slots rls rst hH hS hn hL hs hz hc hq
  obtain ⟨v, h1, h2⟩ := cm_lr_at hL hl
  have e := cm_vr_l h2
  subst e
  exact lv_lload_n hx hb hd rfl h1 (k H locs cells slots rls _ hH hS hn hL ⟨h2, hs⟩ hz hc hq)
theorem so_aload (hx : p.tables.exec = Jvm.exec) (hb : c.code = cm_by y) {i : Nat} {x : Nat} (hl : L[i]? = some (some (.inr (.inr x)))) (hd : decode (cm_by y) pc = .ok (.aload i, 2)) (k : cm_Go Z p l e R s m args below meth c Q CC SS y hf (pc + 2) L (.inr (.inr x) :: st) h) : cm_Go Z p l e R s m args below meth c Q CC SS y hf pc L st h := by
  intro H locs cells slots rls rst hH hS hn hL hs hz hc hq
  obtain ⟨v, h1, h2⟩ := cm_lr_at hL hl
  obtain ⟨j, rfl⟩ := cm_vr_r h2
  exact lv_aload hx hb hd h1 (k H locs cells slots rls _ hH hS hn hL ⟨h2, hs⟩ hz hc hq)
theorem so_aload_n (hx : p.tables.exec = Jvm.exec) (hb : c.code = cm_by y) {i : Fin 4} {x : Nat} (hl : L[i.val]? = some (some (.inr (.inr x)))) (hd : decode (cm_by y) pc = .ok (.aload_n i, 1)) (k : cm_Go Z p l e R s m args below meth c Q CC SS y hf (pc + 1) L (.inr (.inr x) :: st) h) : cm_Go Z p l e R s m args below meth c Q CC SS y hf pc L st h := by
  intro H locs cells slots rls rst hH hS hn hL hs hz hc hq
  obtain ⟨v, h1, h2⟩ := cm_lr_at hL hl
  obtain ⟨j, rfl⟩ := cm_vr_r h2
  exact lv_aload_n hx hb hd rfl h1 (k H locs cells slots rls _ hH hS hn hL ⟨h2, hs⟩ hz hc hq)
theorem cm_setl (L : cm_L) (i : Nat) (a : Option cm_V) : ((cm_kl L i).set i a).length = L.length := by rw [List.length_set, cm_kl_len]
theorem cm_setl2 (L : cm_L) (i : Nat) (a b : Option cm_V) : (((cm_kl L i).set i a).set (i + 1) b).length = L.length := by rw [List.length_set, List.length_set, cm_kl_len]
theorem so_istore (hx : p.tables.exec = Jvm.exec) (hb : c.code = cm_by y) {i : Nat} {x : Int} (hi : i < L.length) (hd : decode (cm_by y) pc = .ok (.istore i, 2)) (k : cm_Go Z p l e R s m args below meth c Q CC SS y hf (pc + 2) ((cm_kl L i).set i (some (.inl x))) st h) : cm_Go Z p l e R s m args below meth c Q CC SS y hf pc L (.inl x :: st) h := by
  intro H locs cells slots rls rst hH hS hn hL hs hz hc hq
  obtain ⟨j, r, rfl, hj, hs⟩ := cm_sr_i hs
  obtain ⟨lv, h1, h2⟩ := hL
  refine lv_istore hx hb hd h1 hi rfl (fun ls' hl' => ?_)
  exact k H locs cells slots ls' _ hH hS ((cm_setl _ _ _).trans hn) (cm_st1 h2 hi (v := .int j) (a := .inl x) ⟨j, rfl, hj⟩ hl') hs hz hc hq
theorem so_istore_n (hx : p.tables.exec = Jvm.exec) (hb : c.code = cm_by y) {i : Fin 4} {x : Int} (hi : i.val < L.length) (hd : decode (cm_by y) pc = .ok (.istore_n i, 1)) (k : cm_Go Z p l e R s m args below meth c Q CC SS y hf (pc + 1) ((cm_kl L i.val).set i.val (some (.inl x))) st h) : cm_Go Z p l e R s m args below meth c Q CC SS y hf pc L (.inl x :: st) h := by
  intro H locs cells slots rls rst hH hS hn hL hs hz hc hq
  obtain ⟨j, r, rfl, hj, hs⟩ := cm_sr_i hs
  obtain ⟨lv, h1, h2⟩ := hL
  refine lv_istore_n hx hb hd rfl h1 hi rfl (fun ls' hl' => ?_)
  exact k H locs cells slots ls' _ hH hS ((cm_setl _ _ _).trans hn) (cm_st1 h2 hi (v := .int j) (a := .inl x) ⟨j, rfl, hj⟩ hl') hs hz hc hq
theorem so_astore (hx : p.tables.exec = Jvm.exec) (hb : c.code = cm_by y) {i : Nat} {x : Nat} (hi : i < L.length) (hd : decode (cm_by y) pc = .ok (.astore i, 2)) (k : cm_Go Z p l e R s m args below meth c Q CC SS y hf (pc + 2) ((cm_kl L i).set i (some (.inr (.inr x)))) st h) : cm_Go Z p l e R s m args below meth c Q CC SS y hf pc L (.inr (.inr x) :: st) h := by
  intro H locs cells slots rls rst hH hS hn hL hs hz hc hq
  obtain ⟨j, r, rfl, hj, hs⟩ := cm_sr_r hs
  obtain ⟨lv, h1, h2⟩ := hL
  refine lv_astore hx hb hd h1 hi rfl (fun ls' hl' => ?_)
  exact k H locs cells slots ls' _ hH hS ((cm_setl _ _ _).trans hn) (cm_st1 h2 hi (v := .ref j) (a := .inr (.inr x)) hj hl') hs hz hc hq
theorem so_astore_n (hx : p.tables.exec = Jvm.exec) (hb : c.code = cm_by y) {i : Fin 4} {x : Nat} (hi : i.val < L.length) (hd : decode (cm_by y) pc = .ok (.astore_n i, 1)) (k : cm_Go Z p l e R s m args below meth c Q CC SS y hf (pc + 1) ((cm_kl L i.val).set i.val (some (.inr (.inr x)))) st h) : cm_Go Z p l e R s m args below meth c Q CC SS y hf pc L (.inr (.inr x) :: st) h := by
  intro H locs cells slots rls rst hH hS hn hL hs hz hc hq
  obtain ⟨j, r, rfl, hj, hs⟩ := cm_sr_r hs
  obtain ⟨lv, h1, h2⟩ := hL
  refine lv_astore_n hx hb hd rfl h1 hi rfl (fun ls' hl' => ?_)
  exact k H locs cells slots ls' _ hH hS ((cm_setl _ _ _).trans hn) (cm_st1 h2 hi (v := .ref j) (a := .inr (.inr x)) hj hl') hs hz hc hq
theorem so_lstore (hx : p.tables.exec = Jvm.exec) (hb : c.code = cm_by y) {i : Nat} {x : Int64} (hi : i + 1 < L.length) (hd : decode (cm_by y) pc = .ok (.lstore i, 2)) (k : cm_Go Z p l e R s m args below meth c Q CC SS y hf (pc + 2) (((cm_kl L i).set i (some (.inr (.inl x)))).set (i + 1) none) st h) : cm_Go Z p l e R s m args below meth c Q CC SS y hf pc L (.inr (.inl x) :: st) h := by
  intro H locs cells slots rls rst hH hS hn hL hs hz hc hq
  obtain ⟨r, rfl, hs2⟩ := cm_sr_l hs
  obtain ⟨lv, h1, h2⟩ := hL
  refine lv_lstore hx hb hd h1 hi rfl (fun ls' hl' => ?_)
  exact k H locs cells slots ls' _ hH hS ((cm_setl2 _ _ _ _).trans hn) (cm_st2 h2 hi (v := .long x) (a := .inr (.inl x)) rfl hl') hs2 hz hc hq
theorem so_lstore_n (hx : p.tables.exec = Jvm.exec) (hb : c.code = cm_by y) {i : Fin 4} {x : Int64} (hi : i.val + 1 < L.length) (hd : decode (cm_by y) pc = .ok (.lstore_n i, 1)) (k : cm_Go Z p l e R s m args below meth c Q CC SS y hf (pc + 1) (((cm_kl L i.val).set i.val (some (.inr (.inl x)))).set (i.val + 1) none) st h) : cm_Go Z p l e R s m args below meth c Q CC SS y hf pc L (.inr (.inl x) :: st) h := by
  intro H locs cells slots rls rst hH hS hn hL hs hz hc hq
  obtain ⟨r, rfl, hs2⟩ := cm_sr_l hs
  obtain ⟨lv, h1, h2⟩ := hL
  refine lv_lstore_n hx hb hd rfl h1 hi rfl (fun ls' hl' => ?_)
  exact k H locs cells slots ls' _ hH hS ((cm_setl2 _ _ _ _).trans hn) (cm_st2 h2 hi (v := .long x) (a := .inr (.inl x)) rfl hl') hs2 hz hc hq
theorem so_iinc (hx : p.tables.exec = Jvm.exec) (hb : c.code = cm_by y) {i : Nat} {n x : Int} (hv : -32768 ≤ n ∧ n ≤ 32767) (hl : L[i]? = some (some (.inl x))) (hd : decode (cm_by y) pc = .ok (.iinc i n, 3)) (k : cm_Go Z p l e R s m args below meth c Q CC SS y hf (pc + 3) (L.set i (some (.inl (cm_wr (x + n))))) st h) : cm_Go Z p l e R s m args below meth c Q CC SS y hf pc L st h := by
  intro H locs cells slots rls rst hH hS hn hL hs hz hc hq
  have hi : i < L.length := (List.getElem?_eq_some_iff.mp hl).1
  obtain ⟨lv, h1, h2⟩ := hL
  obtain ⟨v, hm, h3⟩ := h2 i _ hl
  obtain ⟨j, rfl, hj⟩ := cm_vr_i h3
  obtain ⟨q, hq1⟩ := List.getElem?_of_mem hm
  refine lv_iinc hx hb hd h1 hq1 rfl hi rfl (fun ls' hl' => ?_)
  have hkl : (cm_kl L i).set i (some (.inl (cm_wr (x + n)))) = L.set i (some (.inl (cm_wr (x + n)))) ∨ True := Or.inr trivial
  refine k H locs cells slots ls' _ hH hS ((List.length_set ..).trans hn) ?_ hs hz hc hq
  have hadd : (j + Int32.ofInt n).toInt = cm_wr (x + n) := by rw [cm_add, hj, cm_ofI (by omega) (by omega)]
  refine ⟨_, by rw [List.length_set]; exact hl', fun t b ht => ?_⟩
  by_cases hti : i = t
  · subst hti
    rw [List.getElem?_set] at ht
    simp only [if_true, hi] at ht
    cases ht
    exact ⟨_, List.mem_cons_self, _, rfl, hadd⟩
  · rw [List.getElem?_set_ne hti] at ht
    obtain ⟨w, hm2, hw⟩ := h2 t b ht
    refine ⟨w, List.mem_cons_of_mem _ (List.mem_filter.mpr ⟨hm2, ?_⟩), hw⟩
    have e1 : (t == i) = false := by simpa using fun e => hti e.symm
    have e2 : (t + 1 == i && w.category == 2) = false := by
      cases e3 : (t + 1 == i) with
      | false => rfl
      | true =>
        have e4 : t + 1 = i := by simpa using e3
        have hw1 : ls'.size = L.length := hl'.1
        have h5 := h1.2.2 _ hm2
        have h6 := h1.2.2 _ hm
        by_cases h7 : w.category = 2
        · have h8 := h1.2.1.1 t w h5 h7
          rw [e4] at h8
          have h9 : some (Slot.val (Value.int j)) = some Slot.second := h6.symm.trans h8
          cases h9
        · simpa using h7
    simp [e1, e2]
theorem so_iadd (hx : p.tables.exec = Jvm.exec) (hb : c.code = cm_by y) {a b : Int} (hd : decode (cm_by y) pc = .ok (.iadd, 1)) (k : cm_Go Z p l e R s m args below meth c Q CC SS y hf (pc + 1) L (.inl (cm_wr (a + b)) :: st) h) : cm_Go Z p l e R s m args below meth c Q CC SS y hf pc L (.inl b :: .inl a :: st) h := by
  intro H locs cells slots rls rst hH hS hn hL hs hz hc hq
  obtain ⟨i, r, rfl, hi, hs⟩ := cm_sr_i hs
  obtain ⟨j, r, rfl, hj, hs⟩ := cm_sr_i hs
  exact lv_iadd hx hb hd (k H locs cells slots rls _ hH hS hn hL ⟨⟨_, rfl, by rw [cm_add, hi, hj]⟩, hs⟩ hz hc hq)
theorem so_isub (hx : p.tables.exec = Jvm.exec) (hb : c.code = cm_by y) {a b : Int} (hd : decode (cm_by y) pc = .ok (.isub, 1)) (k : cm_Go Z p l e R s m args below meth c Q CC SS y hf (pc + 1) L (.inl (cm_wr (a - b)) :: st) h) : cm_Go Z p l e R s m args below meth c Q CC SS y hf pc L (.inl b :: .inl a :: st) h := by
  intro H locs cells slots rls rst hH hS hn hL hs hz hc hq
  obtain ⟨i, r, rfl, hi, hs⟩ := cm_sr_i hs
  obtain ⟨j, r, rfl, hj, hs⟩ := cm_sr_i hs
  exact lv_isub hx hb hd (k H locs cells slots rls _ hH hS hn hL ⟨⟨_, rfl, by rw [cm_sub, hi, hj]⟩, hs⟩ hz hc hq)
theorem so_imul (hx : p.tables.exec = Jvm.exec) (hb : c.code = cm_by y) {a b : Int} (hd : decode (cm_by y) pc = .ok (.imul, 1)) (k : cm_Go Z p l e R s m args below meth c Q CC SS y hf (pc + 1) L (.inl (cm_wr (a * b)) :: st) h) : cm_Go Z p l e R s m args below meth c Q CC SS y hf pc L (.inl b :: .inl a :: st) h := by
  intro H locs cells slots rls rst hH hS hn hL hs hz hc hq
  obtain ⟨i, r, rfl, hi, hs⟩ := cm_sr_i hs
  obtain ⟨j, r, rfl, hj, hs⟩ := cm_sr_i hs
  exact lv_imul hx hb hd (k H locs cells slots rls _ hH hS hn hL ⟨⟨_, rfl, by rw [cm_mul, hi, hj]⟩, hs⟩ hz hc hq)
theorem so_iand (hx : p.tables.exec = Jvm.exec) (hb : c.code = cm_by y) {a b : Int} (hd : decode (cm_by y) pc = .ok (.iand, 1)) (k : cm_Go Z p l e R s m args below meth c Q CC SS y hf (pc + 1) L (.inl (cm_and a b) :: st) h) : cm_Go Z p l e R s m args below meth c Q CC SS y hf pc L (.inl b :: .inl a :: st) h := by
  intro H locs cells slots rls rst hH hS hn hL hs hz hc hq
  obtain ⟨i, r, rfl, hi, hs⟩ := cm_sr_i hs
  obtain ⟨j, r, rfl, hj, hs⟩ := cm_sr_i hs
  exact lv_iand hx hb hd (k H locs cells slots rls _ hH hS hn hL ⟨⟨_, rfl, by rw [cm_and, ← hi, ← hj, cm_toI, cm_toI]⟩, hs⟩ hz hc hq)
theorem so_ior (hx : p.tables.exec = Jvm.exec) (hb : c.code = cm_by y) {a b : Int} (hd : decode (cm_by y) pc = .ok (.ior, 1)) (k : cm_Go Z p l e R s m args below meth c Q CC SS y hf (pc + 1) L (.inl (cm_or a b) :: st) h) : cm_Go Z p l e R s m args below meth c Q CC SS y hf pc L (.inl b :: .inl a :: st) h := by
  intro H locs cells slots rls rst hH hS hn hL hs hz hc hq
  obtain ⟨i, r, rfl, hi, hs⟩ := cm_sr_i hs
  obtain ⟨j, r, rfl, hj, hs⟩ := cm_sr_i hs
  exact lv_ior hx hb hd (k H locs cells slots rls _ hH hS hn hL ⟨⟨_, rfl, by rw [cm_or, ← hi, ← hj, cm_toI, cm_toI]⟩, hs⟩ hz hc hq)
theorem so_ishl (hx : p.tables.exec = Jvm.exec) (hb : c.code = cm_by y) {a b : Int} (hd : decode (cm_by y) pc = .ok (.ishl, 1)) (k : cm_Go Z p l e R s m args below meth c Q CC SS y hf (pc + 1) L (.inl (cm_shl a b) :: st) h) : cm_Go Z p l e R s m args below meth c Q CC SS y hf pc L (.inl b :: .inl a :: st) h := by
  intro H locs cells slots rls rst hH hS hn hL hs hz hc hq
  obtain ⟨i, r, rfl, hi, hs⟩ := cm_sr_i hs
  obtain ⟨j, r, rfl, hj, hs⟩ := cm_sr_i hs
  exact lv_ishl hx hb hd (k H locs cells slots rls _ hH hS hn hL ⟨⟨_, rfl, by rw [cm_shl, ← hi, ← hj, cm_toI, cm_toI]⟩, hs⟩ hz hc hq)
theorem so_ishr (hx : p.tables.exec = Jvm.exec) (hb : c.code = cm_by y) {a b : Int} (hd : decode (cm_by y) pc = .ok (.ishr, 1)) (k : cm_Go Z p l e R s m args below meth c Q CC SS y hf (pc + 1) L (.inl (cm_shr a b) :: st) h) : cm_Go Z p l e R s m args below meth c Q CC SS y hf pc L (.inl b :: .inl a :: st) h := by
  intro H locs cells slots rls rst hH hS hn hL hs hz hc hq
  obtain ⟨i, r, rfl, hi, hs⟩ := cm_sr_i hs
  obtain ⟨j, r, rfl, hj, hs⟩ := cm_sr_i hs
  exact lv_ishr hx hb hd (k H locs cells slots rls _ hH hS hn hL ⟨⟨_, rfl, by rw [cm_shr, ← hi, ← hj, cm_toI, cm_toI]⟩, hs⟩ hz hc hq)
theorem so_iushr (hx : p.tables.exec = Jvm.exec) (hb : c.code = cm_by y) {a b : Int} (hd : decode (cm_by y) pc = .ok (.iushr, 1)) (k : cm_Go Z p l e R s m args below meth c Q CC SS y hf (pc + 1) L (.inl (cm_ushr a b) :: st) h) : cm_Go Z p l e R s m args below meth c Q CC SS y hf pc L (.inl b :: .inl a :: st) h := by
  intro H locs cells slots rls rst hH hS hn hL hs hz hc hq
  obtain ⟨i, r, rfl, hi, hs⟩ := cm_sr_i hs
  obtain ⟨j, r, rfl, hj, hs⟩ := cm_sr_i hs
  exact lv_iushr hx hb hd rfl (k H locs cells slots rls _ hH hS hn hL ⟨⟨_, rfl, by rw [cm_ushr, ← hi, ← hj, cm_toI, cm_toI]⟩, hs⟩ hz hc hq)
theorem so_idiv (hx : p.tables.exec = Jvm.exec) (hb : c.code = cm_by y) {a b : Int} (h0 : b ≠ 0) (hd : decode (cm_by y) pc = .ok (.idiv, 1)) (k : cm_Go Z p l e R s m args below meth c Q CC SS y hf (pc + 1) L (.inl (cm_wr (a.tdiv b)) :: st) h) : cm_Go Z p l e R s m args below meth c Q CC SS y hf pc L (.inl b :: .inl a :: st) h := by
  intro H locs cells slots rls rst hH hS hn hL hs hz hc hq
  obtain ⟨i, r, rfl, hi, hs⟩ := cm_sr_i hs
  obtain ⟨j, r, rfl, hj, hs⟩ := cm_sr_i hs
  exact lv_idiv hx hb hd (fun e => h0 (by rw [← hi, e]; rfl)) (k H locs cells slots rls _ hH hS hn hL ⟨⟨_, rfl, by rw [cm_div, hi, hj]⟩, hs⟩ hz hc hq)
theorem so_irem (hx : p.tables.exec = Jvm.exec) (hb : c.code = cm_by y) {a b : Int} (h0 : b ≠ 0) (hd : decode (cm_by y) pc = .ok (.irem, 1)) (k : cm_Go Z p l e R s m args below meth c Q CC SS y hf (pc + 1) L (.inl (a.tmod b) :: st) h) : cm_Go Z p l e R s m args below meth c Q CC SS y hf pc L (.inl b :: .inl a :: st) h := by
  intro H locs cells slots rls rst hH hS hn hL hs hz hc hq
  obtain ⟨i, r, rfl, hi, hs⟩ := cm_sr_i hs
  obtain ⟨j, r, rfl, hj, hs⟩ := cm_sr_i hs
  exact lv_irem hx hb hd (fun e => h0 (by rw [← hi, e]; rfl)) (k H locs cells slots rls _ hH hS hn hL ⟨⟨_, rfl, by rw [cm_rem _ _ (by rw [hi]; exact h0), hi, hj]⟩, hs⟩ hz hc hq)
theorem so_ladd (hx : p.tables.exec = Jvm.exec) (hb : c.code = cm_by y) {a b : Int64} (hd : decode (cm_by y) pc = .ok (.ladd, 1)) (k : cm_Go Z p l e R s m args below meth c Q CC SS y hf (pc + 1) L (.inr (.inl (a + b)) :: st) h) : cm_Go Z p l e R s m args below meth c Q CC SS y hf pc L (.inr (.inl b) :: .inr (.inl a) :: st) h := by
  intro H locs cells slots rls rst hH hS hn hL hs hz hc hq
  obtain ⟨r1, rfl, hs1⟩ := cm_sr_l hs
  obtain ⟨r, rfl, hs2⟩ := cm_sr_l hs1
  exact lv_ladd hx hb hd (k H locs cells slots rls _ hH hS hn hL ⟨rfl, hs2⟩ hz hc hq)
theorem so_lmul (hx : p.tables.exec = Jvm.exec) (hb : c.code = cm_by y) {a b : Int64} (hd : decode (cm_by y) pc = .ok (.lmul, 1)) (k : cm_Go Z p l e R s m args below meth c Q CC SS y hf (pc + 1) L (.inr (.inl (a * b)) :: st) h) : cm_Go Z p l e R s m args below meth c Q CC SS y hf pc L (.inr (.inl b) :: .inr (.inl a) :: st) h := by
  intro H locs cells slots rls rst hH hS hn hL hs hz hc hq
  obtain ⟨r1, rfl, hs1⟩ := cm_sr_l hs
  obtain ⟨r, rfl, hs2⟩ := cm_sr_l hs1
  exact lv_lmul hx hb hd (k H locs cells slots rls _ hH hS hn hL ⟨rfl, hs2⟩ hz hc hq)
theorem so_ldiv (hx : p.tables.exec = Jvm.exec) (hb : c.code = cm_by y) {a b : Int64} (h0 : b ≠ 0) (hd : decode (cm_by y) pc = .ok (.ldiv, 1)) (k : cm_Go Z p l e R s m args below meth c Q CC SS y hf (pc + 1) L (.inr (.inl (a / b)) :: st) h) : cm_Go Z p l e R s m args below meth c Q CC SS y hf pc L (.inr (.inl b) :: .inr (.inl a) :: st) h := by
  intro H locs cells slots rls rst hH hS hn hL hs hz hc hq
  obtain ⟨r1, rfl, hs1⟩ := cm_sr_l hs
  obtain ⟨r, rfl, hs2⟩ := cm_sr_l hs1
  exact lv_ldiv hx hb hd h0 (k H locs cells slots rls _ hH hS hn hL ⟨rfl, hs2⟩ hz hc hq)
theorem cm_lcc (a b : Int64) : (lg_cmp a b).toInt = cm_lc a b := by
  unfold lg_cmp cm_lc
  by_cases h1 : a = b
  · subst h1
    have : ¬ a > a := by simp [Int64.lt_iff_toInt_lt]
    simp [this]
  · by_cases h2 : a < b
    · have h3 : ¬ b < a := by simp only [Int64.lt_iff_toInt_lt] at h2 ⊢; omega
      simp only [h1, h2, gt_iff_lt, h3, if_false, if_true]
      rfl
    · have h3 : b < a := by
        rw [← Int64.toInt_inj] at h1
        simp only [Int64.lt_iff_toInt_lt] at h2 ⊢
        omega
      simp only [h1, h2, gt_iff_lt, h3, if_false, if_true]
      rfl
theorem so_lcmp (hx : p.tables.exec = Jvm.exec) (hb : c.code = cm_by y) {a b : Int64} (hd : decode (cm_by y) pc = .ok (.lcmp, 1)) (k : cm_Go Z p l e R s m args below meth c Q CC SS y hf (pc + 1) L (.inl (cm_lc a b) :: st) h) : cm_Go Z p l e R s m args below meth c Q CC SS y hf pc L (.inr (.inl b) :: .inr (.inl a) :: st) h := by
  intro H locs cells slots rls rst hH hS hn hL hs hz hc hq
  obtain ⟨r1, rfl, hs1⟩ := cm_sr_l hs
  obtain ⟨r, rfl, hs2⟩ := cm_sr_l hs1
  exact W.lcmp hx hb hd (k H locs cells slots rls _ hH hS hn hL ⟨⟨_, rfl, cm_lcc a b⟩, hs2⟩ hz hc hq)
theorem so_i2l (hx : p.tables.exec = Jvm.exec) (hb : c.code = cm_by y) {a : Int} (hd : decode (cm_by y) pc = .ok (.i2l, 1)) (k : cm_Go Z p l e R s m args below meth c Q CC SS y hf (pc + 1) L (.inr (.inl (Int64.ofInt a)) :: st) h) : cm_Go Z p l e R s m args below meth c Q CC SS y hf pc L (.inl a :: st) h := by
  intro H locs cells slots rls rst hH hS hn hL hs hz hc hq
  obtain ⟨i, r, rfl, hi, hs⟩ := cm_sr_i hs
  exact lv_i2l hx hb hd rfl (k H locs cells slots rls _ hH hS hn hL ⟨by rw [cm_i64, hi]; rfl, hs⟩ hz hc hq)
theorem so_dup (hx : p.tables.exec = Jvm.exec) (hb : c.code = cm_by y) {a : cm_V} (h1 : cm_cat a = 1) (hd : decode (cm_by y) pc = .ok (.dup, 1)) (k : cm_Go Z p l e R s m args below meth c Q CC SS y hf (pc + 1) L (a :: a :: st) h) : cm_Go Z p l e R s m args below meth c Q CC SS y hf pc L (a :: st) h := by
  intro H locs cells slots rls rst hH hS hn hL hs hz hc hq
  obtain ⟨v, r, rfl, hv, hs⟩ := cm_sr_cons hs
  exact lv_dup hx hb hd ((cm_cat_eq hv).trans h1) (k H locs cells slots rls _ hH hS hn hL ⟨hv, hv, hs⟩ hz hc hq)
theorem so_pop (hx : p.tables.exec = Jvm.exec) (hb : c.code = cm_by y) {a : cm_V} (h1 : cm_cat a = 1) (hd : decode (cm_by y) pc = .ok (.pop, 1)) (k : cm_Go Z p l e R s m args below meth c Q CC SS y hf (pc + 1) L st h) : cm_Go Z p l e R s m args below meth c Q CC SS y hf pc L (a :: st) h := by
  intro H locs cells slots rls rst hH hS hn hL hs hz hc hq
  obtain ⟨v, r, rfl, hv, hs⟩ := cm_sr_cons hs
  exact lv_pop hx hb hd ((cm_cat_eq hv).trans h1) (k H locs cells slots rls _ hH hS hn hL hs hz hc hq)
theorem so_dup2 (hx : p.tables.exec = Jvm.exec) (hb : c.code = cm_by y) {a b : cm_V} (h1 : cm_cat a = 1) (h2 : cm_cat b = 1) (hd : decode (cm_by y) pc = .ok (.dup2, 1)) (k : cm_Go Z p l e R s m args below meth c Q CC SS y hf (pc + 1) L (b :: a :: b :: a :: st) h) : cm_Go Z p l e R s m args below meth c Q CC SS y hf pc L (b :: a :: st) h := by
  intro H locs cells slots rls rst hH hS hn hL hs hz hc hq
  obtain ⟨v, r, rfl, hv, hs⟩ := cm_sr_cons hs
  obtain ⟨w, r, rfl, hw, hs⟩ := cm_sr_cons hs
  exact lv_dup2_11 hx hb hd ((cm_cat_eq hv).trans h2) ((cm_cat_eq hw).trans h1) (k H locs cells slots rls _ hH hS hn hL ⟨hv, hw, hv, hw, hs⟩ hz hc hq)
theorem cm_tgI {pc : Nat} {o : Int} (h : cm_tg pc o = true) : (pc : Int) + o = ((cm_tgt pc o : Nat) : Int) := by
  unfold cm_tg at h
  unfold cm_tgt
  have := of_decide_eq_true h
  omega
theorem so_goto (hx : p.tables.exec = Jvm.exec) (hb : c.code = cm_by y) {o : Int} {a : Nat} (ht : cm_tg pc o = true) (hd : decode (cm_by y) pc = .ok (.goto o, 3)) (k : cm_Go Z p l e R s m args below meth c Q CC SS y hf (cm_tgt pc o) (cm_fg a L) st h) : cm_Go Z p l e R s m args below meth c Q CC SS y hf pc L st h := by
  intro H locs cells slots rls rst hH hS hn hL hs hz hc hq
  exact lv_goto hx hb hd (cm_tgI ht) (k H locs cells slots rls _ hH hS ((cm_fg_len _ _).trans hn) (cm_lr_fg hL a) hs hz hc hq)
def cm_tst (c : ClassFile.Cond) (a b : Int) : Prop := match c with
  | .eq => a = b
  | .ne => ¬ a = b
  | .lt => a < b
  | .ge => ¬ a < b
  | .gt => b < a
  | .le => ¬ b < a
theorem cm_br_inv {c : ClassFile.Cond} {a b : Int} {t e : cm_R} {q} (h : cm_br c a b t e = some q) : (cm_tst c a b ∧ t = some q) ∨ (¬ cm_tst c a b ∧ e = some q) := by
  cases c <;> (unfold cm_br at h; unfold cm_tst; simp only at h ⊢; split at h <;> rename_i hh) <;> first | exact Or.inl ⟨hh, h⟩ | exact Or.inr ⟨hh, h⟩ | exact Or.inr ⟨fun z => z hh, h⟩
theorem cm_ltI (x y : Int32) : x < y ↔ x.toInt < y.toInt := Int32.lt_iff_toInt_lt
theorem cm_leI (x y : Int32) : x ≤ y ↔ x.toInt ≤ y.toInt := Int32.le_iff_toInt_le
theorem so_if (hx : p.tables.exec = Jvm.exec) (hb : c.code = cm_by y) {cd : ClassFile.Cond} {o a : Int} (ht : cm_tg pc o = true) (hd : decode (cm_by y) pc = .ok (.ifCond cd o, 3)) (kt : cm_tst cd a 0 → cm_Go Z p l e R s m args below meth c Q CC SS y hf (cm_tgt pc o) L st h) (kf : ¬ cm_tst cd a 0 → cm_Go Z p l e R s m args below meth c Q CC SS y hf (pc + 3) L st h) : cm_Go Z p l e R s m args below meth c Q CC SS y hf pc L (.inl a :: st) h := by
  intro H locs cells slots rls rst hH hS hn hL hs hz hc hq
  obtain ⟨i, r, rfl, hi, hs⟩ := cm_sr_i hs
  have e0 : (0 : Int32).toInt = 0 := rfl
  cases cd with
  | eq => exact lv_if_eq hx hb hd (cm_tgI ht) (fun z => kt (by show a = 0; rw [← hi, z]; rfl) H locs cells slots rls _ hH hS hn hL hs hz hc hq) (fun z => kf (fun w => z (by rw [cm_ieq, hi, e0]; exact w)) H locs cells slots rls _ hH hS hn hL hs hz hc hq)
  | ne => exact lv_if_ne hx hb hd (cm_tgI ht) (fun z => kt (fun w => z (by rw [cm_ieq, hi, e0]; exact w)) H locs cells slots rls _ hH hS hn hL hs hz hc hq) (fun z => kf (fun w => w (by rw [← hi, z]; rfl)) H locs cells slots rls _ hH hS hn hL hs hz hc hq)
  | lt => exact lv_if_lt hx hb hd (cm_tgI ht) (fun z => kt (by rw [cm_ltI, hi, e0] at z; exact z) H locs cells slots rls _ hH hS hn hL hs hz hc hq) (fun z => kf (by rw [cm_ltI, hi, e0] at z; exact z) H locs cells slots rls _ hH hS hn hL hs hz hc hq)
  | ge => exact lv_if_ge hx hb hd (cm_tgI ht) (fun z => kt (by rw [cm_leI, hi, e0] at z; exact Int.not_lt.mpr z) H locs cells slots rls _ hH hS hn hL hs hz hc hq) (fun z => kf (by rw [cm_leI, hi, e0] at z; exact fun w => z (Int.not_lt.mp w)) H locs cells slots rls _ hH hS hn hL hs hz hc hq)
  | gt => exact lv_if_gt hx hb hd (cm_tgI ht) (fun z => kt (by rw [cm_ltI, hi, e0] at z; exact z) H locs cells slots rls _ hH hS hn hL hs hz hc hq) (fun z => kf (by rw [cm_ltI, hi, e0] at z; exact z) H locs cells slots rls _ hH hS hn hL hs hz hc hq)
  | le => exact lv_if_le hx hb hd (cm_tgI ht) (fun z => kt (by rw [cm_leI, hi, e0] at z; exact Int.not_lt.mpr z) H locs cells slots rls _ hH hS hn hL hs hz hc hq) (fun z => kf (by rw [cm_leI, hi, e0] at z; exact fun w => z (Int.not_lt.mp w)) H locs cells slots rls _ hH hS hn hL hs hz hc hq)
theorem so_icmp (hx : p.tables.exec = Jvm.exec) (hb : c.code = cm_by y) {cd : ClassFile.Cond} {o a b : Int} (ht : cm_tg pc o = true) (hd : decode (cm_by y) pc = .ok (.if_icmp cd o, 3)) (kt : cm_tst cd a b → cm_Go Z p l e R s m args below meth c Q CC SS y hf (cm_tgt pc o) L st h) (kf : ¬ cm_tst cd a b → cm_Go Z p l e R s m args below meth c Q CC SS y hf (pc + 3) L st h) : cm_Go Z p l e R s m args below meth c Q CC SS y hf pc L (.inl b :: .inl a :: st) h := by
  intro H locs cells slots rls rst hH hS hn hL hs hz hc hq
  obtain ⟨j, r, rfl, hj, hs⟩ := cm_sr_i hs
  obtain ⟨i, r, rfl, hi, hs⟩ := cm_sr_i hs
  cases cd with
  | eq => exact lv_icmp_eq hx hb hd (cm_tgI ht) (fun z => kt (by rw [cm_ieq, hi, hj] at z; exact z) H locs cells slots rls _ hH hS hn hL hs hz hc hq) (fun z => kf (by rw [cm_ieq, hi, hj] at z; exact z) H locs cells slots rls _ hH hS hn hL hs hz hc hq)
  | ne => exact lv_icmp_ne hx hb hd (cm_tgI ht) (fun z => kt (fun w => z (by rw [cm_ieq, hi, hj]; exact w)) H locs cells slots rls _ hH hS hn hL hs hz hc hq) (fun z => kf (fun w => w (by rw [cm_ieq, hi, hj] at z; exact z)) H locs cells slots rls _ hH hS hn hL hs hz hc hq)
  | lt => exact lv_icmp_lt hx hb hd (cm_tgI ht) (fun z => kt (by rw [cm_ltI, hi, hj] at z; exact z) H locs cells slots rls _ hH hS hn hL hs hz hc hq) (fun z => kf (by rw [cm_ltI, hi, hj] at z; exact z) H locs cells slots rls _ hH hS hn hL hs hz hc hq)
  | ge => exact lv_icmp_ge hx hb hd (cm_tgI ht) (fun z => kt (by rw [cm_leI, hi, hj] at z; exact Int.not_lt.mpr z) H locs cells slots rls _ hH hS hn hL hs hz hc hq) (fun z => kf (by rw [cm_leI, hi, hj] at z; exact fun w => z (Int.not_lt.mp w)) H locs cells slots rls _ hH hS hn hL hs hz hc hq)
  | gt => exact lv_icmp_gt hx hb hd (cm_tgI ht) (fun z => kt (by rw [cm_ltI, hi, hj] at z; exact z) H locs cells slots rls _ hH hS hn hL hs hz hc hq) (fun z => kf (by rw [cm_ltI, hi, hj] at z; exact z) H locs cells slots rls _ hH hS hn hL hs hz hc hq)
  | le => exact lv_icmp_le hx hb hd (cm_tgI ht) (fun z => kt (by rw [cm_leI, hi, hj] at z; exact Int.not_lt.mpr z) H locs cells slots rls _ hH hS hn hL hs hz hc hq) (fun z => kf (by rw [cm_leI, hi, hj] at z; exact fun w => z (Int.not_lt.mp w)) H locs cells slots rls _ hH hS hn hL hs hz hc hq)
theorem cm_tsw_inv {r : (Option cm_V ⊕ Nat) × cm_H} {x : Int} {d : cm_R} {j : Int → cm_R} : ∀ (os : List Int) (a : Int), cm_tsw os x a d j = some r → ((x < a ∨ a + (os.length : Int) ≤ x) ∧ d = some r) ∨ (∃ o, a ≤ x ∧ x < a + (os.length : Int) ∧ os[(x - a).toNat]? = some o ∧ j o = some r) := by
  intro os
  induction os with
  | nil => intro a h; exact Or.inl ⟨by simp only [List.length_nil]; omega, h⟩
  | cons o os ih =>
    intro a h
    unfold cm_tsw at h
    split at h
    · rename_i e
      subst e
      exact Or.inr ⟨o, by omega, by simp only [List.length_cons]; omega, by simp, h⟩
    · rename_i e
      rcases ih (a + 1) h with ⟨h1, h2⟩ | ⟨o', h1, h2, h3, h4⟩
      · refine Or.inl ⟨?_, h2⟩
        simp only [List.length_cons]
        omega
      · refine Or.inr ⟨o', by omega, by simp only [List.length_cons]; omega, ?_, h4⟩
        have e1 : (x - a).toNat = (x - (a + 1)).toNat + 1 := by omega
        rw [e1, List.getElem?_cons_succ]
        exact h3
theorem so_tsw (hx : p.tables.exec = Jvm.exec) (hb : c.code = cm_by y) {d lo hi x : Int} {os : Array Int} {ln : Nat} (h0 : cm_tg pc d = true) (h1 : os.toList.all (cm_tg pc) = true) (h2 : hi - lo + 1 = (os.toList.length : Int)) (hd : decode (cm_by y) pc = .ok (.tableswitch d lo hi os, ln)) (kd : (x < lo ∨ lo + (os.toList.length : Int) ≤ x) → cm_Go Z p l e R s m args below meth c Q CC SS y hf (cm_tgt pc d) L st h) (kj : ∀ o, lo ≤ x → x < lo + (os.toList.length : Int) → os.toList[(x - lo).toNat]? = some o → cm_Go Z p l e R s m args below meth c Q CC SS y hf (cm_tgt pc o) L st h) : cm_Go Z p l e R s m args below meth c Q CC SS y hf pc L (.inl x :: st) h := by
  intro H locs cells slots rls rst hH hS hn hL hs hz hc hq
  obtain ⟨i, r, rfl, hi', hs⟩ := cm_sr_i hs
  by_cases hin : x < lo ∨ hi < x
  · exact lv_tableOut hx hb hd (by rw [hi']; exact hin) (cm_tgI h0) (kd (by omega) H locs cells slots rls _ hH hS hn hL hs hz hc hq)
  · have h3 : (x - lo).toNat < os.toList.length := by omega
    have h4 : os.toList[(x - lo).toNat]? = some os.toList[(x - lo).toNat] := List.getElem?_eq_getElem h3
    refine lv_tableIn hx hb hd (by rw [hi']; omega) (by rw [hi']; omega) (off := os.toList[(x - lo).toNat]) ?_ (cm_tgI (List.all_eq_true.mp h1 _ (List.getElem_mem h3))) (kj _ (by omega) (by omega) h4 H locs cells slots rls _ hH hS hn hL hs hz hc hq)
    rw [hi', ← h4, Array.getElem?_toList]
theorem cm_lsw_inv {r : (Option cm_V ⊕ Nat) × cm_H} {x : Int} {d : cm_R} {j : Int → cm_R} {df : Int} : ∀ (ps : List (Int × Int)), (ps.zip (ps.drop 1)).all (fun (a, next) => a.1 < next.1) = true → cm_lsw ps x d j = some r → (Op.lookupswitch.offset ps df x = df ∧ d = some r) ∨ (∃ q ∈ ps, Op.lookupswitch.offset ps df x = q.2 ∧ j q.2 = some r) := by
  intro ps hsort
  induction ps with
  | nil => intro h; exact Or.inl ⟨by simp [Op.lookupswitch.offset], h⟩
  | cons q ps ih =>
    intro h
    unfold cm_lsw at h
    split at h
    · rename_i e
      exact Or.inr ⟨q, List.mem_cons_self, by simp [Op.lookupswitch.offset, e], h⟩
    · rename_i e
      have hsort' : (ps.zip (ps.drop 1)).all (fun (a, next) => a.1 < next.1) = true := by
        cases ps with
        | nil => rfl
        | cons q2 ps => simp only [List.drop_one, List.tail_cons, List.zip_cons_cons, List.all_cons, Bool.and_eq_true] at hsort ⊢; exact hsort.2
      have e1 : Op.lookupswitch.offset (q :: ps) df x = Op.lookupswitch.offset ps df x := by
        simp [Op.lookupswitch.offset, show ¬ q.1 = x from fun z => e z.symm]
      rw [e1]
      rcases ih hsort' h with ⟨h1, h2⟩ | ⟨q', h1, h2, h3⟩
      · exact Or.inl ⟨h1, h2⟩
      · exact Or.inr ⟨q', List.mem_cons_of_mem _ h1, h2, h3⟩
theorem so_lsw (hx : p.tables.exec = Jvm.exec) (hb : c.code = cm_by y) {d x off : Int} {ps : Array (Int × Int)} {ln : Nat} (h0 : cm_tg pc off = true) (h2 : (ps.toList.zip (ps.toList.drop 1)).all (fun (a, next) => a.1 < next.1) = true) (ho : Op.lookupswitch.offset ps.toList d x = off) (hd : decode (cm_by y) pc = .ok (.lookupswitch d ps, ln)) (k : cm_Go Z p l e R s m args below meth c Q CC SS y hf (cm_tgt pc off) L st h) : cm_Go Z p l e R s m args below meth c Q CC SS y hf pc L (.inl x :: st) h := by
  intro H locs cells slots rls rst hH hS hn hL hs hz hc hq
  obtain ⟨i, r, rfl, hi', hs⟩ := cm_sr_i hs
  exact lv_lookup hx hb hd h2 (by rw [hi']; exact ho) (cm_tgI h0) (k H locs cells slots rls _ hH hS hn hL hs hz hc hq)
end SO
