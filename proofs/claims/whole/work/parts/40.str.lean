/-! the two calls of texts, by hand: String's length and charAt of a constant -/
def jd_P (Z : cm_Z) (vs : List Value) : Array Value → State → Prop := fun a U => a = vs.toArray ∧ cm_cx Z U
def jd_Q (res : Option Value) : Array Value → State → Outcome → State → Prop := fun _ st oc t => oc = .returned res ∧ t.heap = st.heap
def jd_X : String → State → State → Prop := fun _ _ _ => False
def jd_M (Z : cm_Z) (l : Launch) (y : MethodName) (cc : ByteArray) (mL : Nat) (rt : Option FieldType) (fr lo : Nat) (vs : List Value) (res : Option Value) : Prop :=
  vx_Met l y [.code y cc mL rt] { frames := fr, cells := 0, slots := 0, locals := lo } (jd_P Z vs) (jd_Q res) jd_X 0 0 (zA Z)
theorem jd_blind {Z : cm_Z} {vs : List Value} : FrameBlind (jd_P Z vs) := by
  intro a U g mk hp
  exact ⟨hp.1, cm_cx_at hp.2 (State.WarmedH.refl U) (Nat.le_refl _) (fun _ _ => rfl)⟩
theorem jd_of {Z : cm_Z} {l : Launch} {y : MethodName} {cc : ByteArray} {mL : Nat} {rt : Option FieldType} {fr lo : Nat} {vs : List Value} {res : Option Value} (hy : plainName y.cls = true) (hlen : (lg_sl vs).length ≤ mL)
    (body : ∀ (p : Program) (e : Env) (s : State) (m : MethodId) (args : Array Value) (below : List Frame) (meth : Method) (c : Code) (ls : Array Slot), p.tables.exec = Jvm.exec → c.code = cc → c.maxLocals = mL → s.vm.findClass y.cls = some m.cls → cm_cx Z s → meth.locks = false → meth.sig.returnType = rt → lv_has ls mL (lv_args 0 vs) →
      W p l e { frames := fr, cells := 0, slots := 0, locals := lo } s m args below meth c s.heap [] 0 0 (vx_MQ below (jd_Q res) jd_X args s 0 0 (zA Z)) (F0 m 0 ls [])) : jd_M Z l y cc mL rt fr lo vs res := by
  refine vx_ofW (cc := cc) (maxL := mL) (ret := rt) (ws' := []) hy rfl ?_
  intro p e s m args below meth c s₁ B hml ht hP
  obtain ⟨rfl, hcx⟩ := hP
  rw [lg_entry_eq]
  exact body p e s m _ below meth c _ B.exec B.bytes hml (findClass_of_methodNamed B.named) hcx B.notSynchronized B.returns (lv_entry vs hlen)
/-- a text's facts -/
theorem cm_tx_at {Z : cm_Z} {s : State} (hcx : cm_cx Z s) {k : Nat} (hk : k < 6) : va_O "java/lang/String" (zK Z k) (zA Z) s s.heap ∧ va_OF "java/lang/String" "coder" "B" (.int 0) (zK Z k) (zA Z) s s.heap ∧ va_OF "java/lang/String" "value" "[B" (.ref (zV Z k)) (zK Z k) (zA Z) s s.heap ∧ va_T .byte (zV Z k) (cm_len.getD (k % 3) 0) (fun j => .int ((cm_byt.getD (k % 3) []).getD j 0)) (zA Z) s s.heap := by
  obtain ⟨h1, h2⟩ := hcx.2.2.2.2.2.2.2.2.2.2.1
  by_cases h3 : k < 3
  · have h4 := h1.1 k h3
    rw [Nat.mod_eq_of_lt h3]
    exact h4
  · have h4 := h2.1 (k - 3) (by omega)
    have e1 : k - 3 + 3 = k := by omega
    have e2 : k % 3 = k - 3 := by omega
    simp only [e1] at h4
    rw [e2]
    exact h4
section JD
variable {Z : cm_Z} {l : Launch} {p : Program} {e : Env} {R : Room} {s : State} {m : MethodId} {args : Array Value} {below : List Frame} {meth : Method} {c : Code} {H : Heap} {locs : List Loc} {cells slots : Nat} {Q : State → Prop} {cc : ByteArray} {nL pc idx : Nat} {own : String} {ls : Array Slot} {rest : List Value}
variable {y : MethodName} {cc2 : ByteArray} {mL2 fr2 lo2 : Nat} {rt2 : Option FieldType} {vs : List Value} {res : Option Value}
theorem jd_pre (hcx : cm_cx Z s) (hS : va_S (zA Z) s.heap H locs) (vs : List Value) : ∀ U : State, U.heap = H → s.WarmedH U.vm → jd_P Z vs vs.toArray U := by
  intro U hU hW
  refine ⟨rfl, cm_cx_at hcx hW (by rw [hU]; exact hS.1) (fun q hq => ?_)⟩
  rw [hU]
  exact hS.2.1 q (Nat.lt_of_lt_of_le hq hcx.2.2.2.2.2.1) (Nat.not_le.mpr hq)
theorem jd_words (hcx : cm_cx Z s) (hcw : Jvm.Cond.code y cc2 mL2 rt2 ∈ lw_tbl) : ∀ w ∈ [Jvm.Cond.code y cc2 mL2 rt2], ∀ (a' : Array Value) (U : State), s.WarmedH U.vm → w.before a' U = true := by
  intro w hw a' U hW
  rw [List.mem_singleton] at hw
  subst hw
  exact cm_two_at hW rfl (hcx.1 _ hcw rfl)
theorem jd_after {b : Array Value} {g : JFrame} (hS : va_S (zA Z) s.heap H locs) (hr : vx_Run p l e R s m args below meth c H locs cells slots 0 0 g rest (jd_Q res b) jd_X (zA Z)) (k : ∀ locs1 : List Loc, va_S (zA Z) s.heap H locs1 → W p l e R s m args below meth c H locs1 cells slots Q { g with pc := g.pc + 3, stack := res.toList ++ rest }) : W p l e R s m args below meth c H locs cells slots Q g := by
  intro T hT X
  rcases hr T hT X with ⟨v, st₀, t, T', L1, h0, X', hL, e1, e2, ⟨hq1, hq2⟩, st⟩ | ⟨q, st₀, t, T', L1, E, ce, h0, X', hL, e1, e2, hq, -⟩
  · have hv : v = res := by cases hq1; rfl
    subst hv
    have hT' : T'.heap = H := by rw [e1, hq2, h0]
    obtain ⟨t2, a1, b1⟩ := k (locs ++ L1) ⟨hS.1, hS.2.1, fun q hq => by
      rcases List.mem_append.mp hq with h | h
      · exact hS.2.2 q h
      · exact hL q h⟩ T' hT' X'
    exact ⟨t2, st t2 a1, b1⟩
  · exact hq.elim
theorem jd_callS (hx : p.tables.exec = Jvm.exec) (hb : c.code = cc) (hml : c.maxLocals = nL) (hown : s.vm.findClass own = some m.cls) (hcx : cm_cx Z s) (hS : va_S (zA Z) s.heap H locs) (M : jd_M Z l y cc2 mL2 rt2 fr2 lo2 vs res) (hcw : Jvm.Cond.code y cc2 mL2 rt2 ∈ lw_tbl) (hlk : Jvm.Cond.methodLink own idx y ∈ lw_tbl) (hst : Jvm.Cond.static y ∈ lw_tbl) (hin : Jvm.Cond.initialized y.cls ∈ lw_tbl) (hne : y.cls ≠ "java/lang/invoke/MethodHandle" ∧ y.cls ≠ "java/lang/invoke/VarHandle") (hnp : (parseMethodDescriptor y.desc).map (fun d => d.parameters.length) = some vs.length)
    (hfr : fr2 + 1 ≤ R.frames) (hlo : 8 + (mL2 + 11) + lo2 ≤ R.locals) (hc : cells ≤ R.cells) (hs : slots ≤ R.slots) (hsz : ls.size = nL) (hwr : (rest.map fun v => v.category).sum ≤ 8) (hd : decode cc pc = .ok (.invokestatic idx, 3))
    (k : ∀ locs1 : List Loc, va_S (zA Z) s.heap H locs1 → W p l e R s m args below meth c H locs1 cells slots Q (F0 m (pc + 3) ls (res.toList ++ rest))) : W p l e R s m args below meth c H locs cells slots Q (F0 m pc ls (vs.reverse ++ rest)) := by
  have hw := jd_words hcx hcw
  have hlen : ∀ sig, parseMethodDescriptor y.desc = some sig → vs.length = sig.parameters.length := by
    intro sig hsig
    rw [hsig] at hnp
    exact (Option.some.inj hnp).symm
  have hfix : CallFix p m c cc nL s args (lw_tbl.filter cm_two) own := ⟨hx, hb, hml, hown, cm_hts hcx args⟩
  exact jd_after hS (vx_runS (As := vs) (rest := rest) (g := F0 m pc ls (vs.reverse ++ rest)) hfix M ⟨⟨rfl, rfl, hfr, hlo, hw, List.mem_cons_self, hw _ List.mem_cons_self args s (State.WarmedH.refl s), cm_w hcx args hin rfl, hne, hlen, cm_w hcx args hlk rfl⟩, cm_w hcx args hst rfl⟩ ⟨jd_blind, jd_pre hcx hS vs⟩ rfl rfl hsz rfl (lv_room hwr) hd ⟨hc, hs⟩) k
theorem jd_callV {b : Nat} {As : List Value} (hx : p.tables.exec = Jvm.exec) (hb : c.code = cc) (hml : c.maxLocals = nL) (hown : s.vm.findClass own = some m.cls) (hcx : cm_cx Z s) (hS : va_S (zA Z) s.heap H locs) (M : jd_M Z l y cc2 mL2 rt2 fr2 lo2 (.ref b :: As) res) (hO : va_O y.cls b (zA Z) s s.heap) (hcw : Jvm.Cond.code y cc2 mL2 rt2 ∈ lw_tbl) (hlk : Jvm.Cond.methodLink own idx y ∈ lw_tbl) (him : Jvm.Cond.instanceMethod y ∈ lw_tbl) (hse : Jvm.Cond.selects y.cls y y ∈ lw_tbl) (hin : Jvm.Cond.initialized y.cls ∈ lw_tbl) (hne : y.cls ≠ "java/lang/invoke/MethodHandle" ∧ y.cls ≠ "java/lang/invoke/VarHandle") (hnp : (parseMethodDescriptor y.desc).map (fun d => d.parameters.length) = some As.length)
    (hfr : fr2 + 1 ≤ R.frames) (hlo : 8 + (mL2 + 11) + lo2 ≤ R.locals) (hc : cells ≤ R.cells) (hs : slots ≤ R.slots) (hsz : ls.size = nL) (hwr : (rest.map fun v => v.category).sum ≤ 8) (hd : decode cc pc = .ok (.invokevirtual idx, 3))
    (k : ∀ locs1 : List Loc, va_S (zA Z) s.heap H locs1 → W p l e R s m args below meth c H locs1 cells slots Q (F0 m (pc + 3) ls (res.toList ++ rest))) : W p l e R s m args below meth c H locs cells slots Q (F0 m pc ls (As.reverse ++ .ref b :: rest)) := by
  have hw := jd_words hcx hcw
  have hlen : ∀ sig, parseMethodDescriptor y.desc = some sig → As.length = sig.parameters.length := by
    intro sig hsig
    rw [hsig] at hnp
    exact (Option.some.inj hnp).symm
  have hfix : CallFix p m c cc nL s args (lw_tbl.filter cm_two) own := ⟨hx, hb, hml, hown, cm_hts hcx args⟩
  have hrecv : ∃ cell : Cell, H[b]? = some cell ∧ cell.vm.isStatics = false ∧ s.vm.findClass y.cls = some cell.cls := by
    obtain ⟨cell, h1, h2, h3, -⟩ := hO.kept hS.2.1
    exact ⟨cell, h1, h2, h3⟩
  exact jd_after hS (vx_runV (C := y.cls) (b := b) (As := As) (rest := rest) (g := F0 m pc ls (As.reverse ++ .ref b :: rest)) hfix M ⟨⟨rfl, rfl, hfr, hlo, hw, List.mem_cons_self, hw _ List.mem_cons_self args s (State.WarmedH.refl s), cm_w hcx args hin rfl, hne, hlen, cm_w hcx args hlk rfl⟩, cm_w hcx args him rfl, cm_w hcx args hse rfl⟩ ⟨jd_blind, hrecv, jd_pre hcx hS _⟩ rfl rfl hsz rfl (lv_room hwr) hd ⟨hc, hs⟩) k
end JD
abbrev jn_len : MethodName := { cls := "java/lang/String", name := "length", desc := "()I" }
abbrev jn_cod : MethodName := { cls := "java/lang/String", name := "coder", desc := "()B" }
abbrev jn_lat : MethodName := { cls := "java/lang/String", name := "isLatin1", desc := "()Z" }
abbrev jn_cha : MethodName := { cls := "java/lang/String", name := "charAt", desc := "(I)C" }
abbrev jn_chl : MethodName := { cls := "java/lang/StringLatin1", name := "charAt", desc := "([BI)C" }
abbrev jn_chk : MethodName := { cls := "java/lang/String", name := "checkIndex", desc := "(II)V" }
abbrev jn_pre : MethodName := { cls := "jdk/internal/util/Preconditions", name := "checkIndex", desc := "(IILjava/util/function/BiFunction;)I" }
def jd_wds : List Cond := [.code jn_len prog_19_method_54_code 1 (some .int), .code jn_cod prog_19_method_152_code 1 (some .byte), .code jn_lat prog_19_method_154_code 1 (some .boolean), .code jn_cha prog_19_method_56_code 2 (some .char), .code jn_chl prog_20_method_2_code 2 (some .char), .code jn_chk prog_19_method_155_code 2 none, .code jn_pre prog_28_method_11_code 3 (some .int),
  .instanceMethod jn_len, .instanceMethod jn_cod, .instanceMethod jn_lat, .instanceMethod jn_cha, .selects "java/lang/String" jn_len jn_len, .selects "java/lang/String" jn_cod jn_cod, .selects "java/lang/String" jn_lat jn_lat, .selects "java/lang/String" jn_cha jn_cha, .static jn_chl, .static jn_chk, .static jn_pre,
  .initialized "java/lang/String", .initialized "java/lang/StringLatin1", .initialized "jdk/internal/util/Preconditions", .methodLink "java/lang/String" 335 jn_cod, .methodLink "java/lang/String" 492 jn_lat, .methodLink "java/lang/String" 495 jn_chl, .methodLink "java/lang/StringLatin1" 9 jn_chk, .methodLink "java/lang/String" 1059 jn_pre,
  .fieldLink "java/lang/String" 38 "java/lang/String" "COMPACT_STRINGS" "Z", .fieldLink "java/lang/String" 15 "java/lang/String" "coder" "B", .fieldLink "java/lang/String" 9 "java/lang/String" "value" "[B", .fieldLink "java/lang/String" 1053 "jdk/internal/util/Preconditions" "SIOOBE_FORMATTER" "Ljava/util/function/BiFunction;"]
theorem jp_pre : (parseMethodDescriptor jn_pre.desc).map (fun d => d.parameters.length) = some 3 := by decide +kernel
theorem jp_chk : (parseMethodDescriptor jn_chk.desc).map (fun d => d.parameters.length) = some 2 := by decide +kernel
theorem jp_chl : (parseMethodDescriptor jn_chl.desc).map (fun d => d.parameters.length) = some 2 := by decide +kernel
theorem jp_cha : (parseMethodDescriptor jn_cha.desc).map (fun d => d.parameters.length) = some 1 := by decide +kernel
set_option maxRecDepth 100000 in
theorem jd_wds_in : ∀ w ∈ jd_wds, w ∈ lw_tbl := by decide +kernel
theorem jd_w {i : Nat} {w : Cond} (h : jd_wds[i]? = some w) : w ∈ lw_tbl := jd_wds_in w (List.mem_of_getElem? h)
section JB
variable {Z : cm_Z} {l : Launch}
theorem jd_cod {k : Nat} (hk : k < 6) : jd_M Z l jn_cod prog_19_method_152_code 1 (some .byte) 0 0 [.ref (zK Z k)] (some (.int 0)) := by
  refine jd_of rfl (Nat.le_refl _) ?_
  intro p e s m args below meth c ls hx hb hml hown hcx hlk hrt hls
  have h0 : ls[0]? = some (.val (.ref (zK Z k))) := lv_at hls 0 rfl
  obtain ⟨-, hco, -, -⟩ := cm_tx_at hcx hk
  refine va_gets hx hb hcx.2.2.2.2.2.2.2.2.2.2.2.1.1 va_S.rf hown (cm_w hcx args (jd_w (i := 26) rfl) rfl) (fun x h => h) (by decide +kernel : decode prog_19_method_152_code 0 = .ok (.getstatic 38, 3)) ?_
  refine lv_if_eq hx hb (by decide +kernel : decode prog_19_method_152_code 3 = .ok (.ifCond .eq 10, 3)) (tgt := 13) (by decide) (fun z => absurd z (by decide)) (fun _ => ?_)
  refine lv_aload_n hx hb (by decide +kernel : decode prog_19_method_152_code 6 = .ok (.aload_n 0, 1)) rfl h0 ?_
  refine vk_getf hx hb hco va_S.rf hown (cm_w hcx args (jd_w (i := 27) rfl) rfl) (fun x h => h) (by decide +kernel : decode prog_19_method_152_code 7 = .ok (.getfield 15, 3)) ?_
  refine lv_goto hx hb (by decide +kernel : decode prog_19_method_152_code 10 = .ok (.goto 4, 3)) (tgt := 14) (by decide) ?_
  exact vx_ret (W.zret hx hb hrt rfl (fun t ht _ => ⟨rfl, ht⟩) (fun q hq => by cases hq) (by decide +kernel : decode prog_19_method_152_code 14 = .ok (.ireturn, 1)) hlk)
theorem jd_lat {k : Nat} (hk : k < 6) : jd_M Z l jn_lat prog_19_method_154_code 1 (some .boolean) 0 0 [.ref (zK Z k)] (some (.int 1)) := by
  refine jd_of rfl (Nat.le_refl _) ?_
  intro p e s m args below meth c ls hx hb hml hown hcx hlk hrt hls
  have h0 : ls[0]? = some (.val (.ref (zK Z k))) := lv_at hls 0 rfl
  obtain ⟨-, hco, -, -⟩ := cm_tx_at hcx hk
  refine va_gets hx hb hcx.2.2.2.2.2.2.2.2.2.2.2.1.1 va_S.rf hown (cm_w hcx args (jd_w (i := 26) rfl) rfl) (fun x h => h) (by decide +kernel : decode prog_19_method_154_code 0 = .ok (.getstatic 38, 3)) ?_
  refine lv_if_eq hx hb (by decide +kernel : decode prog_19_method_154_code 3 = .ok (.ifCond .eq 14, 3)) (tgt := 17) (by decide) (fun z => absurd z (by decide)) (fun _ => ?_)
  refine lv_aload_n hx hb (by decide +kernel : decode prog_19_method_154_code 6 = .ok (.aload_n 0, 1)) rfl h0 ?_
  refine vk_getf hx hb hco va_S.rf hown (cm_w hcx args (jd_w (i := 27) rfl) rfl) (fun x h => h) (by decide +kernel : decode prog_19_method_154_code 7 = .ok (.getfield 15, 3)) ?_
  refine lv_if_ne hx hb (by decide +kernel : decode prog_19_method_154_code 10 = .ok (.ifCond .ne 7, 3)) (tgt := 17) (by decide) (fun z => absurd rfl z) (fun _ => ?_)
  refine lv_iconst hx hb (by decide +kernel : decode prog_19_method_154_code 13 = .ok (.iconst 1, 1)) rfl ?_
  refine lv_goto hx hb (by decide +kernel : decode prog_19_method_154_code 14 = .ok (.goto 4, 3)) (tgt := 18) (by decide) ?_
  exact vx_ret (W.zret hx hb hrt rfl (fun t ht _ => ⟨rfl, ht⟩) (fun q hq => by cases hq) (by decide +kernel : decode prog_19_method_154_code 18 = .ok (.ireturn, 1)) hlk)
theorem jd_len {k : Nat} (hk : k < 6) : jd_M Z l jn_len prog_19_method_54_code 1 (some .int) 1 20 [.ref (zK Z k)] (some (.int (Int32.ofNat (cm_len.getD (k % 3) 0) >>> ((0 : Int32) &&& 31)))) := by
  refine jd_of rfl (Nat.le_refl _) ?_
  intro p e s m args below meth c ls hx hb hml hown hcx hlk hrt hls
  have h0 : ls[0]? = some (.val (.ref (zK Z k))) := lv_at hls 0 rfl
  obtain ⟨hO, -, hva, hT⟩ := cm_tx_at hcx hk
  refine lv_aload_n hx hb (by decide +kernel : decode prog_19_method_54_code 0 = .ok (.aload_n 0, 1)) rfl h0 ?_
  refine vk_getf hx hb hva va_S.rf hown (cm_w hcx args (jd_w (i := 28) rfl) rfl) (fun x h => h) (by decide +kernel : decode prog_19_method_54_code 1 = .ok (.getfield 9, 3)) ?_
  refine va_tlen hx hb hT va_S.rf rfl (by decide +kernel : decode prog_19_method_54_code 4 = .ok (.arraylength, 1)) ?_
  refine lv_aload_n hx hb (by decide +kernel : decode prog_19_method_54_code 5 = .ok (.aload_n 0, 1)) rfl h0 ?_
  refine jd_callV (As := []) hx hb hml hown hcx va_S.rf (jd_cod hk) hO (jd_w (i := 1) rfl) (jd_w (i := 21) rfl) (jd_w (i := 8) rfl) (jd_w (i := 12) rfl) (jd_w (i := 18) rfl) ⟨by decide, by decide⟩ (by decide +kernel) (by decide) (by decide) (Nat.le_refl _) (Nat.le_refl _) hls.1 (by decide : 1 ≤ 8) (by decide +kernel : decode prog_19_method_54_code 6 = .ok (.invokevirtual 335, 3)) ?_
  intro locs1 hS1
  refine lv_ishr hx hb (by decide +kernel : decode prog_19_method_54_code 9 = .ok (.ishr, 1)) ?_
  exact vx_ret (W.iret hx hb hrt (fun t ht _ => ⟨rfl, ht⟩) (fun q hq => hS1.2.2 q hq) (by decide +kernel : decode prog_19_method_54_code 10 = .ok (.ireturn, 1)) hlk)
theorem jd_prec {i n : Int32} {w : Value} (hw : w.category = 1) (h0 : ¬ i < 0) (h1 : i < n) : jd_M Z l jn_pre prog_28_method_11_code 3 (some .int) 0 0 [.int i, .int n, w] (some (.int i)) := by
  refine jd_of rfl (by have a1 : (Value.int i).category = 1 := rfl; have a2 : (Value.int n).category = 1 := rfl; simp [lg_sl, hw, a1, a2]) ?_
  intro p e s m args below meth c ls hx hb hml hown hcx hlk hrt hls
  have g0 : ls[0]? = some (.val (.int i)) := lv_at hls 0 rfl
  have g1 : ls[1]? = some (.val (.int n)) := lv_at hls 1 rfl
  refine lv_iload_n hx hb (by decide +kernel : decode prog_28_method_11_code 0 = .ok (.iload_n 0, 1)) rfl g0 ?_
  refine lv_if_lt hx hb (by decide +kernel : decode prog_28_method_11_code 1 = .ok (.ifCond .lt 8, 3)) (tgt := 9) (by decide) (fun z => absurd z h0) (fun _ => ?_)
  refine lv_iload_n hx hb (by decide +kernel : decode prog_28_method_11_code 4 = .ok (.iload_n 0, 1)) rfl g0 ?_
  refine lv_iload_n hx hb (by decide +kernel : decode prog_28_method_11_code 5 = .ok (.iload_n 1, 1)) rfl g1 ?_
  refine lv_icmp_lt hx hb (by decide +kernel : decode prog_28_method_11_code 6 = .ok (.if_icmp .lt 10, 3)) (tgt := 16) (by decide) (fun _ => ?_) (fun z => absurd h1 z)
  refine lv_iload_n hx hb (by decide +kernel : decode prog_28_method_11_code 16 = .ok (.iload_n 0, 1)) rfl g0 ?_
  exact vx_ret (W.iret hx hb hrt (fun t ht _ => ⟨rfl, ht⟩) (fun q hq => by cases hq) (by decide +kernel : decode prog_28_method_11_code 17 = .ok (.ireturn, 1)) hlk)
theorem jd_chk {i n : Int32} (h0 : ¬ i < 0) (h1 : i < n) : jd_M Z l jn_chk prog_19_method_155_code 2 none 1 22 [.int i, .int n] none := by
  refine jd_of rfl (Nat.le_refl _) ?_
  intro p e s m args below meth c ls hx hb hml hown hcx hlk hrt hls
  have g0 : ls[0]? = some (.val (.int i)) := lv_at hls 0 rfl
  have g1 : ls[1]? = some (.val (.int n)) := lv_at hls 1 rfl
  refine lv_iload_n hx hb (by decide +kernel : decode prog_19_method_155_code 0 = .ok (.iload_n 0, 1)) rfl g0 ?_
  refine lv_iload_n hx hb (by decide +kernel : decode prog_19_method_155_code 1 = .ok (.iload_n 1, 1)) rfl g1 ?_
  have fin : ∀ w : Value, w.category = 1 → va_Z "jdk/internal/util/Preconditions" "SIOOBE_FORMATTER" "Ljava/util/function/BiFunction;" w (zA Z) s s.heap → W p l e { frames := 1, cells := 0, slots := 0, locals := 22 } s m args below meth c s.heap [] 0 0 (vx_MQ below (jd_Q none) jd_X args s 0 0 (zA Z)) (F0 m 2 ls [.int n, .int i]) := by
    intro w hw hZ
    refine va_gets hx hb hZ va_S.rf hown (cm_w hcx args (jd_w (i := 29) rfl) rfl) (fun x h => h) (by decide +kernel : decode prog_19_method_155_code 2 = .ok (.getstatic 1053, 3)) ?_
    refine jd_callS (vs := [.int i, .int n, w]) (rest := []) hx hb hml hown hcx va_S.rf (jd_prec hw h0 h1) (jd_w (i := 6) rfl) (jd_w (i := 25) rfl) (jd_w (i := 17) rfl) (jd_w (i := 20) rfl) ⟨by decide, by decide⟩ jp_pre (by decide) (by decide) (Nat.le_refl _) (Nat.le_refl _) hls.1 (by decide) (by decide +kernel : decode prog_19_method_155_code 5 = .ok (.invokestatic 1059, 3)) ?_
    intro locs1 hS1
    refine lv_pop hx hb (by decide +kernel : decode prog_19_method_155_code 8 = .ok (.pop, 1)) rfl ?_
    exact vx_ret (W.vret hx hb hrt (fun t ht _ => ⟨rfl, ht⟩) (fun q hq => hS1.2.2 q hq) (by decide +kernel : decode prog_19_method_155_code 9 = .ok (.return_, 1)) hlk)
  rcases hcx.2.2.2.2.2.2.2.2.2.2.2.1.2 with hZ | ⟨t, hZ⟩
  · exact fin .null rfl hZ
  · exact fin (.ref t) rfl hZ
/-- the char at j of the text i -/
def jd_c (i j : Nat) : Int32 := (((cm_byt.getD i []).getD j 0 &&& (255 : Int32)).toUInt32 % 65536).toInt32
theorem jd_c_ok : ∀ i, i < 3 → ∀ j, j < cm_len.getD i 0 → narrow .char (.int (jd_c i j)) = .int (jd_c i j) ∧ (jd_c i j).toInt = (cm_tx i).getD j 0 := by decide +kernel
theorem jd_in {j : Nat} {N : Nat} {i : Int32} (hi : i.toInt = (j : Int)) (hj : j < N) : ¬ i < 0 ∧ vp_in i N ∧ i.toNatClampNeg = j := by
  have h0 : ¬ i < 0 := by
    intro h
    have := (cm_ltI i 0).mp h
    have e0 : (0 : Int32).toInt = 0 := rfl
    omega
  have h1 : i.toNatClampNeg = j := by
    show i.toInt.toNat = j
    omega
  refine ⟨h0, ?_, h1⟩
  intro h
  rcases h with h | h
  · exact h0 h
  · omega
theorem jd_chl {k j : Nat} (hk : k < 6) (hj : j < cm_len.getD (k % 3) 0) {i : Int32} (hi : i.toInt = (j : Int)) : jd_M Z l jn_chl prog_20_method_2_code 2 (some .char) 2 43 [.ref (zV Z k), .int i] (some (.int (jd_c (k % 3) j))) := by
  refine jd_of rfl (Nat.le_refl _) ?_
  intro p e s m args below meth c ls hx hb hml hown hcx hlk hrt hls
  have g0 : ls[0]? = some (.val (.ref (zV Z k))) := lv_at hls 0 rfl
  have g1 : ls[1]? = some (.val (.int i)) := lv_at hls 1 rfl
  obtain ⟨-, -, -, hT⟩ := cm_tx_at hcx hk
  obtain ⟨h0, h1, h2⟩ := jd_in hi hj
  have hl4 : ∀ a, a < 3 → cm_len.getD a 0 < 100 := by decide
  have hlt : i < Int32.ofNat (cm_len.getD (k % 3) 0) := by
    rw [cm_ltI, hi]
    have : (Int32.ofNat (cm_len.getD (k % 3) 0)).toInt = ((cm_len.getD (k % 3) 0 : Nat) : Int) := nI_toInt (by have := hl4 (k % 3) (Nat.mod_lt _ (by omega)); omega)
    rw [this]
    omega
  refine lv_iload_n hx hb (by decide +kernel : decode prog_20_method_2_code 0 = .ok (.iload_n 1, 1)) rfl g1 ?_
  refine lv_aload_n hx hb (by decide +kernel : decode prog_20_method_2_code 1 = .ok (.aload_n 0, 1)) rfl g0 ?_
  refine va_tlen hx hb hT va_S.rf rfl (by decide +kernel : decode prog_20_method_2_code 2 = .ok (.arraylength, 1)) ?_
  refine jd_callS (vs := [.int i, .int (Int32.ofNat (cm_len.getD (k % 3) 0))]) (rest := []) hx hb hml hown hcx va_S.rf (jd_chk h0 hlt) (jd_w (i := 5) rfl) (jd_w (i := 24) rfl) (jd_w (i := 16) rfl) (jd_w (i := 18) rfl) ⟨by decide, by decide⟩ jp_chk (by decide) (by decide) (Nat.le_refl _) (Nat.le_refl _) hls.1 (by decide) (by decide +kernel : decode prog_20_method_2_code 3 = .ok (.invokestatic 9, 3)) ?_
  intro locs1 hS1
  refine lv_aload_n hx hb (by decide +kernel : decode prog_20_method_2_code 6 = .ok (.aload_n 0, 1)) rfl g0 ?_
  refine lv_iload_n hx hb (by decide +kernel : decode prog_20_method_2_code 7 = .ok (.iload_n 1, 1)) rfl g1 ?_
  refine va_tb hx hb hT hS1 h1 (v := .int ((cm_byt.getD (k % 3) []).getD j 0)) (by rw [h2]) (by decide +kernel : decode prog_20_method_2_code 8 = .ok (.baload, 1)) ?_
  refine lv_sipush hx hb (by decide +kernel : decode prog_20_method_2_code 9 = .ok (.sipush 255, 3)) rfl ?_
  refine lv_iand hx hb (by decide +kernel : decode prog_20_method_2_code 12 = .ok (.iand, 1)) ?_
  refine lv_i2c hx hb (v := jd_c (k % 3) j) (by decide +kernel : decode prog_20_method_2_code 13 = .ok (.i2c, 1)) rfl ?_
  exact vx_ret (W.zret hx hb hrt (jd_c_ok _ (Nat.mod_lt _ (by omega)) j hj).1 (fun t ht _ => ⟨rfl, ht⟩) (fun q hq => hS1.2.2 q hq) (by decide +kernel : decode prog_20_method_2_code 14 = .ok (.ireturn, 1)) hlk)
theorem jd_cha {k j : Nat} (hk : k < 6) (hj : j < cm_len.getD (k % 3) 0) {i : Int32} (hi : i.toInt = (j : Int)) : jd_M Z l jn_cha prog_19_method_56_code 2 (some .char) 3 64 [.ref (zK Z k), .int i] (some (.int (jd_c (k % 3) j))) := by
  refine jd_of rfl (Nat.le_refl _) ?_
  intro p e s m args below meth c ls hx hb hml hown hcx hlk hrt hls
  have g0 : ls[0]? = some (.val (.ref (zK Z k))) := lv_at hls 0 rfl
  have g1 : ls[1]? = some (.val (.int i)) := lv_at hls 1 rfl
  obtain ⟨hO, -, hva, hT⟩ := cm_tx_at hcx hk
  refine lv_aload_n hx hb (by decide +kernel : decode prog_19_method_56_code 0 = .ok (.aload_n 0, 1)) rfl g0 ?_
  refine jd_callV (As := []) (rest := []) hx hb hml hown hcx va_S.rf (jd_lat hk) hO (jd_w (i := 2) rfl) (jd_w (i := 22) rfl) (jd_w (i := 9) rfl) (jd_w (i := 13) rfl) (jd_w (i := 18) rfl) ⟨by decide, by decide⟩ (by decide +kernel) (by decide) (by decide) (Nat.le_refl _) (Nat.le_refl _) hls.1 (by decide) (by decide +kernel : decode prog_19_method_56_code 1 = .ok (.invokevirtual 492, 3)) ?_
  intro locs1 hS1
  refine lv_if_eq hx hb (by decide +kernel : decode prog_19_method_56_code 4 = .ok (.ifCond .eq 12, 3)) (tgt := 16) (by decide) (fun z => absurd z (by decide)) (fun _ => ?_)
  refine lv_aload_n hx hb (by decide +kernel : decode prog_19_method_56_code 7 = .ok (.aload_n 0, 1)) rfl g0 ?_
  refine vk_getf hx hb hva hS1 hown (cm_w hcx args (jd_w (i := 28) rfl) rfl) (fun x h => h) (by decide +kernel : decode prog_19_method_56_code 8 = .ok (.getfield 9, 3)) ?_
  refine lv_iload_n hx hb (by decide +kernel : decode prog_19_method_56_code 11 = .ok (.iload_n 1, 1)) rfl g1 ?_
  refine jd_callS (vs := [.ref (zV Z k), .int i]) (rest := []) hx hb hml hown hcx hS1 (jd_chl hk hj hi) (jd_w (i := 4) rfl) (jd_w (i := 23) rfl) (jd_w (i := 15) rfl) (jd_w (i := 19) rfl) ⟨by decide, by decide⟩ jp_chl (by decide) (by decide) (Nat.le_refl _) (Nat.le_refl _) hls.1 (by decide) (by decide +kernel : decode prog_19_method_56_code 12 = .ok (.invokestatic 495, 3)) ?_
  intro locs2 hS2
  exact vx_ret (W.zret hx hb hrt (jd_c_ok _ (Nat.mod_lt _ (by omega)) j hj).1 (fun t ht _ => ⟨rfl, ht⟩) (fun q hq => hS2.2.2 q hq) (by decide +kernel : decode prog_19_method_56_code 15 = .ok (.ireturn, 1)) hlk)
theorem jd_len_ok : ∀ i, i < 3 → (Int32.ofNat (cm_len.getD i 0) >>> ((0 : Int32) &&& 31)).toInt = ((cm_tx i).length : Int) ∧ cm_len.getD i 0 = (cm_tx i).length := by decide +kernel
theorem cm_vr_t {q a : Nat} (h : cm_vr Z (.ref q) (.inr (.inr a))) (h1 : 200000 ≤ a) (h2 : a < 200003) : ∃ k, k < 6 ∧ k % 3 = a - 200000 ∧ q = zK Z k := by
  unfold cm_vr at h
  simp only [show ¬ a < 100000 by omega, show ¬ a = 100000 by omega, show a < 300000 by omega, if_false, if_true] at h
  obtain ⟨k, h3, h4, h5⟩ := h
  cases h5
  exact ⟨k, h3, h4, rfl⟩
/-- the calls of texts -/
theorem cm_hs_ok : cm_HS Z l := by
  intro p e R s m args below meth c Q CC SS y pc i a hf h L st hFR hR6 hR1 hle ha1 ha2 hd
  obtain ⟨hx, hb, hml, hown, hcx, hin, hfm, hlo, hCC, hSS⟩ := hFR
  refine ⟨fun hpl hwd k => ?_, fun x hpl hwd hxr k => ?_⟩
  · intro H locs cells slots rls rst hH hS hn hL hs hz hc hq
    have hsz := cm_lr_size hL
    obtain ⟨q, r, rfl, hv, hs_1⟩ := cm_sr_r hs
    obtain ⟨k6, g1, g2, rfl⟩ := cm_vr_t hv ha1 ha2
    have hwr : (r.map fun v => v.category).sum ≤ 8 := by
      have h9 := cm_sr_wd hs
      simp only [List.map_cons, List.sum_cons] at h9
      have : (Value.ref (zK Z k6)).category = 1 := rfl
      omega
    refine jd_callV (As := []) (rest := r) hx hb hml hown hcx hS (jd_len g1) (cm_tx_at hcx g1).1 (jd_w (i := 0) rfl) (cm_pl_inv hpl) (jd_w (i := 7) rfl) (jd_w (i := 11) rfl) (jd_w (i := 18) rfl) ⟨by decide, by decide⟩ (by decide +kernel) (by omega) (by omega) (by have := hle.1; omega) (by have := hle.2; omega) (hsz.trans hn) hwr hd ?_
    intro locs1 hS1
    refine k H locs1 cells slots rls _ hH hS1 hn hL ⟨⟨_, rfl, ?_⟩, hs_1⟩ hz hc hq
    rw [← g2]
    exact (jd_len_ok _ (Nat.mod_lt _ (by omega))).1
  · intro H locs cells slots rls rst hH hS hn hL hs hz hc hq
    have hsz := cm_lr_size hL
    have hwd0 := cm_sr_wd hs
    obtain ⟨j, r, rfl, hj, hs_1⟩ := cm_sr_i hs
    obtain ⟨q, r, rfl, hv, hs_2⟩ := cm_sr_r hs_1
    obtain ⟨k6, g1, g2, rfl⟩ := cm_vr_t hv ha1 ha2
    have hwr : (r.map fun v => v.category).sum ≤ 8 := by
      simp only [List.map_cons, List.sum_cons] at hwd0
      have : (Value.ref (zK Z k6)).category = 1 := rfl
      omega
    rw [← g2] at hxr
    have hln := (jd_len_ok _ (Nat.mod_lt k6 (by omega : 0 < 3))).2
    have hxj : x.toNat < cm_len.getD (k6 % 3) 0 := by rw [hln]; omega
    have hji : j.toInt = (x.toNat : Int) := by omega
    refine jd_callV (As := [.int j]) (rest := r) hx hb hml hown hcx hS (jd_cha g1 hxj hji) (cm_tx_at hcx g1).1 (jd_w (i := 3) rfl) (cm_pl_inv hpl) (jd_w (i := 10) rfl) (jd_w (i := 14) rfl) (jd_w (i := 18) rfl) ⟨by decide, by decide⟩ jp_cha (by omega) (by omega) (by have := hle.1; omega) (by have := hle.2; omega) (hsz.trans hn) hwr hd ?_
    intro locs1 hS1
    refine k H locs1 cells slots rls _ hH hS1 hn hL ⟨⟨_, rfl, ?_⟩, hs_2⟩ hz hc hq
    rw [← g2]
    exact (jd_c_ok _ (Nat.mod_lt _ (by omega)) _ hxj).2
end JB
