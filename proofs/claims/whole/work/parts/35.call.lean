/-- what is known of the tables stays -/
theorem cm_cx_at {Z : cm_Z} {s U : State} (hcx : cm_cx Z s) (hW : s.WarmedH U.vm) (hz : s.heap.size ≤ U.heap.size) (hk : ∀ q : Nat, q < zB Z → U.heap[q]? = s.heap[q]?) : cm_cx Z U := by
  obtain ⟨c1, c2, c3, c4, c5, c6, c7, c8, c9, c10, c11, c12, c13⟩ := hcx
  have hA := hW.alike
  have hkk : ∀ a : Nat, a < s.heap.size → ¬ zA Z a → U.heap[a]? = s.heap[a]? := fun a _ h2 => hk a (Nat.lt_of_not_le h2)
  exact ⟨fun w hw h2 => cm_two_at hW h2 (c1 w hw h2), c2.moved hA, c3.moved hA, (c4.moved hA).kept (hk _ c5), c5, Nat.le_trans c6 hz, (c7.moved hA).kept hkk, (c8.moved hA).kept hkk, fun q hq => (c9 q hq).elim fun a h => ⟨a, h.warm hW⟩, fun i q hq => (c10 i q hq).warm hW, ⟨(c11.1.moved hA).kept hkk, (c11.2.moved hA).kept hkk⟩, ⟨(c12.1.moved hA).kept hkk, (c12.2.moved hA).kept hkk⟩, c13.moved hA⟩
def cm_Qc (Z : cm_Z) (h1 : cm_H) (r : Option cm_V ⊕ Nat) : Array Value → State → Outcome → State → Prop := fun _ st oc t => (match r with
  | .inl none => oc = .returned none
  | .inl (some a) => ∃ v, oc = .returned (some v) ∧ cm_vr Z v a
  | .inr _ => False) ∧ cm_hr Z h1 t.heap ∧ va_F (zA Z) st t
def cm_XC (Z : cm_Z) (h1 : cm_H) (r : Option cm_V ⊕ Nat) : String → State → State → Prop := fun E st t => (∃ e, r = .inr e ∧ E = cm_xn e) ∧ cm_hr Z h1 t.heap ∧ va_F (zA Z) st t
def cm_Pc (Z : cm_Z) (h : cm_H) (as_ : List cm_V) : Array Value → State → Prop := fun v U => (∃ vs : List Value, v = vs.toArray ∧ cm_sr Z as_ vs) ∧ cm_hr Z h U.heap ∧ cm_cx Z U ∧ U.heap.size ≤ zB Z + h.2.2.2.2.2.1
/-- a method's contract: from h, with these values, it ends so, with h1 -/
def cm_Met (Z : cm_Z) (l : Launch) (y : Nat) (h : cm_H) (as_ : List cm_V) (r : Option cm_V ⊕ Nat) (h1 : cm_H) : Prop :=
  vx_Met l (cm_nm y) [cm_cw y] { frames := cm_fm y, cells := h1.2.2.2.2.2.1 - h.2.2.2.2.2.1, slots := h1.2.2.2.2.2.2 - h.2.2.2.2.2.2, locals := cm_lo y } (cm_Pc Z h as_) (cm_Qc Z h1 r) (cm_XC Z h1 r) (h1.2.2.2.2.2.1 - h.2.2.2.2.2.1) (h1.2.2.2.2.2.2 - h.2.2.2.2.2.2) (zA Z)
theorem cm_Pc_blind {Z : cm_Z} {h : cm_H} {as_ : List cm_V} : FrameBlind (cm_Pc Z h as_) := by
  intro a U g mk hp
  obtain ⟨h1, h2, h3, h4⟩ := hp
  exact ⟨h1, h2, cm_cx_at h3 (State.WarmedH.refl U) (Nat.le_refl _) (fun _ _ => rfl), h4⟩
theorem cm_sr_len {Z : cm_Z} : ∀ {st : List cm_V} {rst : List Value}, cm_sr Z st rst → rst.length = st.length := by
  intro st
  induction st with
  | nil => intro rst h; rw [cm_sr_nil h]; rfl
  | cons a st ih =>
    intro rst h
    obtain ⟨v, r, rfl, -, hs⟩ := cm_sr_cons h
    rw [List.length_cons, List.length_cons, ih hs]
theorem cm_sr_app {Z : cm_Z} : ∀ {a b : List cm_V} {ra rb : List Value}, cm_sr Z a ra → cm_sr Z b rb → cm_sr Z (a ++ b) (ra ++ rb) := by
  intro a
  induction a with
  | nil => intro b ra rb h1 h2; rw [cm_sr_nil h1]; exact h2
  | cons x a ih =>
    intro b ra rb h1 h2
    obtain ⟨v, r, rfl, hv, hs⟩ := cm_sr_cons h1
    exact ⟨hv, ih hs h2⟩
theorem cm_sr_split {Z : cm_Z} : ∀ {a b : List cm_V} {r : List Value}, cm_sr Z (a ++ b) r → ∃ ra rb, r = ra ++ rb ∧ cm_sr Z a ra ∧ cm_sr Z b rb := by
  intro a
  induction a with
  | nil => intro b r h; exact ⟨[], r, rfl, trivial, h⟩
  | cons x a ih =>
    intro b r h
    obtain ⟨v, r1, rfl, hv, hs⟩ := cm_sr_cons h
    obtain ⟨ra, rb, rfl, h1, h2⟩ := ih hs
    exact ⟨v :: ra, rb, rfl, ⟨hv, h1⟩, h2⟩
theorem cm_sr_rev {Z : cm_Z} : ∀ {a : List cm_V} {ra : List Value}, cm_sr Z a ra → cm_sr Z a.reverse ra.reverse := by
  intro a
  induction a with
  | nil => intro ra h; rw [cm_sr_nil h]; trivial
  | cons x a ih =>
    intro ra h
    obtain ⟨v, r, rfl, hv, hs⟩ := cm_sr_cons h
    rw [List.reverse_cons, List.reverse_cons]
    exact cm_sr_app (ih hs) ⟨hv, trivial⟩
set_option maxRecDepth 100000 in
theorem cm_mts_ok : cm_mts.all (fun q => (q.1 == 293) || cm_okm q) = true := cm_chunks [(cm_mts.drop 0).take 50, (cm_mts.drop 50).take 50, (cm_mts.drop 100).take 50, (cm_mts.drop 150).take 50, (cm_mts.drop 200).take 50, (cm_mts.drop 250).take 50] rfl (by
  simp only [List.forall_mem_cons, List.not_mem_nil, false_implies, implies_true, and_true]
  exact ⟨cm_mts_0, cm_mts_1, cm_mts_2, cm_mts_3, cm_mts_4, cm_mts_5⟩)
theorem cm_mt {b : Nat} (hb : b < 295) (hne : b ≠ 293) : Jvm.Cond.initialized (cm_nm b).cls ∈ lw_tbl ∧ (cm_sc b = true → Jvm.Cond.static (cm_nm b) ∈ lw_tbl) ∧ (cm_sc b = false → Jvm.Cond.instanceMethod (cm_nm b) ∈ lw_tbl ∧ ((cm_nm b).name ≠ "<init>" → Jvm.Cond.selects (cm_nm b).cls (cm_nm b) (cm_nm b) ∈ lw_tbl)) ∧ (cm_nm b).cls = cm_cn (cm_ow b) ∧ plainName (cm_nm b).cls = true ∧ ((cm_nm b).cls ≠ "java/lang/invoke/MethodHandle" ∧ (cm_nm b).cls ≠ "java/lang/invoke/VarHandle") ∧ (parseMethodDescriptor (cm_nm b).desc).map (fun d => d.parameters.length) = some (cm_na_ b - (match cm_sc b with
    | true => 0
    | false => 1)) ∧ cm_na_ b ≤ cm_mL b := by
  have h1 := cm_mts_at b hb
  cases e1 : cm_mts[b]? with
  | none => rw [e1] at h1; cases h1
  | some q =>
    rw [e1] at h1
    have h2 : q.1 = b := Option.some.inj h1
    have h3 := List.all_eq_true.mp cm_mts_ok q (List.mem_of_getElem? e1)
    rw [h2] at h3
    have h4 : cm_okm q = true := by
      rcases Bool.or_eq_true_iff.mp h3 with h4 | h4
      · exact absurd (by simpa using h4) hne
      · exact h4
    unfold cm_okm at h4
    rw [h2] at h4
    simp only [Bool.and_eq_true, decide_eq_true_eq] at h4
    obtain ⟨⟨⟨⟨⟨⟨h5, h6⟩, h7⟩, h8⟩, h9⟩, h10⟩, h11⟩ := h4
    refine ⟨List.mem_of_getElem? h5, fun hs => ?_, fun hs => ?_, h7, h8, h9, h10, h11⟩
    · rw [hs] at h6
      exact List.mem_of_getElem? (of_decide_eq_true h6)
    · rw [hs] at h6
      simp only [Bool.and_eq_true, Bool.or_eq_true, decide_eq_true_eq] at h6
      refine ⟨List.mem_of_getElem? h6.1, fun hi => ?_⟩
      rcases h6.2 with h12 | h12
      · exact absurd h12 hi
      · exact List.mem_of_getElem? h12
theorem cm_two_cw (b : Nat) : cm_two (cm_cw b) = true := by
  unfold cm_cw
  split <;> rfl
theorem cm_vw_cn {ci : Nat} {q : vw_C} (h : cm_vw[ci]? = some q) : q.1 = cm_cn ci := by
  have h1 : ci < 10 := (List.getElem?_eq_some_iff.mp h).1
  rcases ci with _ | _ | _ | _ | _ | _ | _ | _ | _ | _ | ci
  all_goals first | (cases h; rfl) | omega
set_option maxRecDepth 100000 in
theorem cm_hh_d : ∀ b, b < 295 → (cm_sc b = false → cm_hh b = []) ∧ ((cm_nm b).name = "<init>" → cm_rt b = none) := by decide +kernel
theorem cm_hh_v {b : Nat} (hb : b < 295) (h : cm_sc b = false) : cm_hh b = [] := (cm_hh_d b hb).1 h
theorem cm_rt_i {b : Nat} (hb : b < 295) (h : (cm_nm b).name = "<init>") : cm_rt b = none := (cm_hh_d b hb).2 h
set_option maxRecDepth 100000 in
theorem cm_nonest_d : lw_tbl.all (fun w => match w with
  | .methodLinkNest _ _ x _ => !(x.cls == RL)
  | _ => true) = true := by decide +kernel
set_option maxRecDepth 100000 in
theorem cm_hh_L : ∀ b, b < 295 → cm_hh b = [] ∨ (cm_nm b).cls = RL := by decide +kernel
theorem cm_nonest (b : Nat) (hb : b < 295) (q0 : Nat × Nat × Nat × Nat) (hs0 : List (Nat × Nat × Nat × Nat)) (h : cm_hh b = q0 :: hs0) (o : String) (i : Nat) : ¬ Jvm.Cond.methodLinkNest o i (cm_nm b) "OnceVolume" ∈ lw_tbl := by
  intro hm
  have h1 := List.all_eq_true.mp cm_nonest_d _ hm
  rcases cm_hh_L b hb with h2 | h2
  · rw [h] at h2; cases h2
  · simp [h2] at h1
section SOC
variable {Z : cm_Z} {p : Program} {l : Launch} {e : Env} {R : Room} {s : State} {m : MethodId} {args : Array Value} {below : List Frame} {meth : Method} {c : Code} {Q : State → Prop} {CC SS y pc : Nat} {hf h : cm_H} {L : cm_L} {st : List cm_V}
/-- behind a call, by vx_Run -/
theorem cm_callW {H : Heap} {locs : List Loc} {cells slots mc ms : Nat} {ls : Array Slot} {st0 rest : List Value} {h1 : cm_H} {r : Option cm_V ⊕ Nat} {a : Array Value} (hr : vx_Run p l e R s m args below meth c H locs cells slots mc ms (F0 m pc ls st0) rest (cm_Qc Z h1 r a) (cm_XC Z h1 r) (zA Z)) (hS : va_S (zA Z) s.heap H locs)
    (k0 : r = .inl none → ∀ (H1 : Heap) (locs1 : List Loc), cm_hr Z h1 H1 → va_S (zA Z) s.heap H1 locs1 → W p l e R s m args below meth c H1 locs1 (cells + mc) (slots + ms) Q (F0 m (pc + 3) ls rest))
    (k1 : ∀ x, r = .inl (some x) → ∀ (v : Value) (H1 : Heap) (locs1 : List Loc), cm_vr Z v x → cm_hr Z h1 H1 → va_S (zA Z) s.heap H1 locs1 → W p l e R s m args below meth c H1 locs1 (cells + mc) (slots + ms) Q (F0 m (pc + 3) ls (v :: rest)))
    (kx : ∀ x, r = .inr x → ∀ (q : Addr) (ce : Cell) (H1 : Heap) (locs1 : List Loc), cm_hr Z h1 H1 → va_S (zA Z) s.heap H1 locs1 → H1[q]? = some ce → ce.vm = .none → s.vm.findClass (cm_xn x) = some ce.cls → vx_W p l e R s m args below meth c H1 locs1 (cells + mc) (slots + ms) Q (F0 m pc ls rest) q) :
    W p l e R s m args below meth c H locs cells slots Q (F0 m pc ls st0) := by
  intro T hT X
  rcases hr T hT X with ⟨v, st₀, t, T', L1, h0, X', hL, e1, e2, ⟨hq1, hq2, hq3⟩, st⟩ | ⟨q, st₀, t, T', L1, E, ce, h0, X', hL, e1, e2, ⟨⟨x, hx1, hx2⟩, hq2, hq3⟩, hce, hcv, hcl, st⟩
  · obtain ⟨-, -, hS1⟩ := vx_keep h0 e1 hS (fun q _ h => h) (fun q h => h) hL hq3
    rcases r with (_ | x) | x
    · have hv : v = none := by
        have h2 : Outcome.returned v = .returned none := hq1
        cases h2
        rfl
      subst hv
      obtain ⟨t2, a1, b1⟩ := k0 rfl T'.heap _ (by rw [e1]; exact hq2) hS1 T' rfl X'
      exact ⟨t2, st t2 a1, b1⟩
    · obtain ⟨w, hw1, hw2⟩ := hq1
      cases hw1
      obtain ⟨t2, a1, b1⟩ := k1 x rfl w T'.heap _ hw2 (by rw [e1]; exact hq2) hS1 T' rfl X'
      exact ⟨t2, st t2 a1, b1⟩
    · exact hq1.elim
  · obtain ⟨-, -, hS1⟩ := vx_keep h0 e1 hS (fun q _ h => h) (fun q h => h) hL hq3
    obtain ⟨t2, a1, b1⟩ := kx x hx1 q ce T'.heap _ (by rw [e1]; exact hq2) hS1 (by rw [e1]; exact hce) hcv (by rw [← hx2]; exact hcl) T' rfl X'
    exact ⟨t2, st.trans a1, b1⟩
/-- an exception flies, at pc -/
def cm_GX (Z : cm_Z) (p : Program) (l : Launch) (e : Env) (R : Room) (s : State) (m : MethodId) (args : Array Value) (below : List Frame) (meth : Method) (c : Code) (Q : State → Prop) (CC SS y : Nat) (hf : cm_H) (pc : Nat) (L : cm_L) (x : Nat) (h : cm_H) : Prop :=
  ∀ (H : Heap) (locs : List Loc) (cells slots : Nat) (rls : Array Slot) (rest : List Value) (q : Addr) (ce : Cell), cm_hr Z h H → va_S (zA Z) s.heap H locs → L.length = cm_mL y → cm_lr Z L rls → s.heap.size + cells ≤ zB Z + h.2.2.2.2.2.1 → cells + hf.2.2.2.2.2.1 ≤ CC + h.2.2.2.2.2.1 → slots + hf.2.2.2.2.2.2 ≤ SS + h.2.2.2.2.2.2 → H[q]? = some ce → ce.vm = .none → s.vm.findClass (cm_xn x) = some ce.cls → vx_W p l e R s m args below meth c H locs cells slots Q (F0 m pc rls rest) q
theorem cm_ml_inv {i b : Nat} (hh : cm_mls.any (fun q => q.1 == cm_ow y && (q.2.1 == i && q.2.2.2.1 == b)) = true) : b < 295 ∧ b ≠ 293 ∧ (Jvm.Cond.methodLink (cm_cn (cm_ow y)) i (cm_nm b) ∈ lw_tbl ∨ Jvm.Cond.methodLinkNest (cm_cn (cm_ow y)) i (cm_nm b) "OnceVolume" ∈ lw_tbl) := by
  obtain ⟨⟨q1, q2, q3, q4, q5⟩, hm, hq⟩ := List.any_eq_true.mp hh
  simp only [Bool.and_eq_true, beq_iff_eq] at hq
  obtain ⟨rfl, rfl, rfl⟩ := hq
  have h1 := List.all_eq_true.mp cm_mls_ok _ hm
  unfold cm_okl at h1
  simp only [Bool.and_eq_true, decide_eq_true_eq] at h1
  obtain ⟨⟨h2, h3⟩, h4⟩ := h1
  refine ⟨h2, h3, ?_⟩
  rcases q3 with _ | q3
  · exact Or.inl (List.mem_of_getElem? h4)
  · exact Or.inr (List.mem_of_getElem? h4)
theorem so_own (hx : p.tables.exec = Jvm.exec) (hb : c.code = cm_by y) (hown : s.vm.findClass (cm_cn (cm_ow y)) = some m.cls) (hcx : cm_cx Z s) (hml : c.maxLocals = cm_mL y) (hfm : cm_fm y ≤ R.frames) (hlo : cm_lo y ≤ R.locals) (hCC : CC ≤ R.cells) (hSS : SS ≤ R.slots) {i a b n v : Nat} {as_ rest : List cm_V} {h1 : cm_H} {r : Option cm_V ⊕ Nat} (hst : st = as_.reverse ++ rest) (hln : as_.length = n) (hwd : cm_wd rest ≤ 8) (hok : cm_okcl y i a b n v = true) (ha : (a == 0 || (100).ble a) = true) (hrc : a = 0 ∨ ∃ q as1, as_ = .inr (.inr q) :: as1 ∧ cm_kd h q 0 (a - 100) = true)
    (hd : decode (cm_by y) pc = .ok ((match v with
      | 0 => .invokestatic i
      | 1 => .invokevirtual i
      | _ => .invokespecial i), 3)) (hle0 : cm_hle h h1) (hle : cm_hle h1 hf) (M : cm_Met Z l b h as_ r h1)
    (k0 : r = .inl none → cm_Go Z p l e R s m args below meth c Q CC SS y hf (pc + 3) L rest h1) (k1 : ∀ x, r = .inl (some x) → cm_Go Z p l e R s m args below meth c Q CC SS y hf (pc + 3) L (x :: rest) h1) (kx : ∀ x, r = .inr x → cm_GX Z p l e R s m args below meth c Q CC SS y hf pc L x h1) : cm_Go Z p l e R s m args below meth c Q CC SS y hf pc L st h := by
  intro H locs cells slots rls rst hH hS hn hL hs hz hc hq
  unfold cm_okcl at hok
  rw [ha] at hok
  simp only [Bool.and_eq_true, beq_iff_eq, Nat.ble_eq] at hok
  obtain ⟨hml1, hn1, hf1, hl1, hv1⟩ := hok
  obtain ⟨hb5, hb6, hlk⟩ := cm_ml_inv hml1
  obtain ⟨t1, t2, t3, t4, t5, t6, t7, t8⟩ := cm_mt hb5 hb6
  have hcw : cm_cw b ∈ lw_tbl := cm_cwin_11 b hb5 hb6
  subst hst
  obtain ⟨ra, rb, rfl, hsa, hsb⟩ := cm_sr_split hs
  have hsr := cm_sr_rev hsa
  rw [List.reverse_reverse] at hsr
  generalize hvs : ra.reverse = vs at hsr
  have hra : ra = vs.reverse := by rw [← hvs, List.reverse_reverse]
  subst hra
  have hvl : vs.length = n := (cm_sr_len hsr).trans hln
  have hsz := cm_lr_size hL
  have hwr : (rb.map fun v => v.category).sum ≤ 8 := by rw [cm_sr_wd hsb]; exact hwd
  have hc1 : cells + (h1.2.2.2.2.2.1 - h.2.2.2.2.2.1) ≤ R.cells := by have h2 := hle0.1; have h3 := hle.1; omega
  have hs1 : slots + (h1.2.2.2.2.2.2 - h.2.2.2.2.2.2) ≤ R.slots := by have h2 := hle0.2; have h3 := hle.2; omega
  refine cm_szW (fun hsz2 => ?_)
  have hpre : ∀ U : State, U.heap = H → s.WarmedH U.vm → cm_Pc Z h as_ vs.toArray U := by
    intro U hU hW
    refine ⟨⟨vs, rfl, hsr⟩, by rw [hU]; exact hH, cm_cx_at hcx hW (by rw [hU]; exact hS.1) (fun q hq => ?_), by rw [hU]; omega⟩
    rw [hU]
    exact hS.2.1 q (Nat.lt_of_lt_of_le hq hcx.2.2.2.2.2.1) (Nat.not_le.mpr hq)
  have hwords : ∀ w ∈ [cm_cw b], ∀ (a' : Array Value) (U : State), s.WarmedH U.vm → w.before a' U = true := by
    intro w hw a' U hW
    rw [List.mem_singleton] at hw
    subst hw
    exact cm_two_at hW (cm_two_cw b) (hcx.1 _ hcw (cm_two_cw b))
  have hfix : CallFix p m c (cm_by y) (cm_mL y) s args (lw_tbl.filter cm_two) (cm_cn (cm_ow y)) := ⟨hx, hb, hml, hown, cm_hts hcx args⟩
  have hsz3 : (F0 m pc rls (vs.reverse ++ rb)).locals.size = cm_mL y := hsz.trans hn
  have hlen : ∀ sig, parseMethodDescriptor (cm_nm b).desc = some sig → cm_na_ b - (match cm_sc b with
    | true => 0
    | false => 1) = sig.parameters.length := by
    intro sig hsig
    rw [hsig] at t7
    exact (Option.some.inj t7).symm
  -- what follows the call
  have fin : ∀ {aa : Array Value}, vx_Run p l e R s m args below meth c H locs cells slots (h1.2.2.2.2.2.1 - h.2.2.2.2.2.1) (h1.2.2.2.2.2.2 - h.2.2.2.2.2.2) (F0 m pc rls (vs.reverse ++ rb)) rb (cm_Qc Z h1 r aa) (cm_XC Z h1 r) (zA Z) → W p l e R s m args below meth c H locs cells slots Q (F0 m pc rls (vs.reverse ++ rb)) := by
    intro aa hrun
    have g1 := hle0.1
    have g2 := hle0.2
    refine cm_callW hrun hS ?_ ?_ ?_
    · intro hr H1 locs1 hH1 hS1
      exact k0 hr H1 locs1 _ _ rls rb hH1 hS1 hn hL hsb (by omega) (by omega) (by omega)
    · intro x hr w H1 locs1 hw hH1 hS1
      exact k1 x hr H1 locs1 _ _ rls (w :: rb) hH1 hS1 hn hL ⟨hw, hsb⟩ (by omega) (by omega) (by omega)
    · intro x hr q ce H1 locs1 hH1 hS1 q1 q2 q3
      exact kx x hr H1 locs1 _ _ rls rb q ce hH1 hS1 hn hL (by omega) (by omega) (by omega) q1 q2 q3
  have hini := cm_w hcx args t1 rfl
  rcases v with _ | _ | v
  · -- static
    simp only [Bool.and_eq_true, beq_iff_eq] at hv1
    obtain ⟨hsc, ha0⟩ := hv1
    have hstat := cm_w hcx args (t2 hsc) rfl
    rw [hsc] at hlen
    have hn2 : vs.length = cm_na_ b - 0 := by omega
    cases hhh : cm_hh b with
    | nil =>
      have ecw : cm_cw b = .code (cm_nm b) (cm_by b) (cm_mL b) (cm_rt b) := by unfold cm_cw; rw [hhh]
      rw [ecw] at hwords
      have M2 := M
      unfold cm_Met at M2
      rw [ecw] at M2
      have hcode := hwords _ List.mem_cons_self args s (State.WarmedH.refl s)
      rcases hlk with hlk | hlk
      · exact fin (vx_runS hfix M2 ⟨⟨rfl, rfl, by show cm_fm b + 1 ≤ _; omega, by show 8 + (cm_mL b + 11) + cm_lo b ≤ _; omega, hwords, List.mem_cons_self, hcode, hini, t6, hlen, cm_w hcx args hlk rfl⟩, hstat⟩ ⟨cm_Pc_blind, hpre⟩ rfl hn2 hsz3 rfl (lv_room hwr) hd ⟨hc1, hs1⟩)
      · exact fin (vx_runSN (host := "OnceVolume") hfix M2 ⟨⟨⟨rfl, rfl, by show cm_fm b + 1 ≤ _; omega, by show 8 + (cm_mL b + 11) + cm_lo b ≤ _; omega, hwords, List.mem_cons_self⟩, hcode, hini, t6, hlen, cm_w hcx args hlk rfl⟩, hstat, trivial⟩ ⟨cm_Pc_blind, hpre⟩ rfl hn2 hsz3 rfl (lv_room hwr) hd ⟨hc1, hs1⟩)
    | cons q0 hs0 =>
      have ecw : cm_cw b = .codeWith (cm_nm b) (cm_by b) (cm_mL b) (cm_rt b) (q0 :: hs0) := by unfold cm_cw; rw [hhh]
      rw [ecw] at hwords
      have M2 := M
      unfold cm_Met at M2
      rw [ecw] at M2
      have hcode := hwords _ List.mem_cons_self args s (State.WarmedH.refl s)
      rcases hlk with hlk | hlk
      · exact fin (vx_runSX hfix M2 ⟨⟨rfl, rfl, by show cm_fm b + 1 ≤ _; omega, by show 8 + (cm_mL b + 11) + cm_lo b ≤ _; omega, hwords, List.mem_cons_self⟩, hcode, hini, t6, hlen, cm_w hcx args hlk rfl, hstat⟩ ⟨cm_Pc_blind, hpre⟩ rfl hn2 hsz3 rfl (lv_room hwr) hd ⟨hc1, hs1⟩)
      · exact absurd hlk (cm_nonest b hb5 q0 hs0 hhh _ _)
  · -- virtual
    simp only [Bool.and_eq_true, beq_iff_eq, Bool.not_eq_true', decide_eq_true_eq] at hv1
    obtain ⟨hsc, ha0, hni⟩ := hv1
    obtain ⟨hin, hsel⟩ := t3 hsc
    have hsel := cm_w hcx args (hsel hni) rfl
    have hin := cm_w hcx args hin rfl
    rw [hsc] at hlen
    rcases hrc with hrc | ⟨q, as1, rfl, hkd⟩
    · omega
    obtain ⟨w, r1, hvs1, hw, hs2⟩ := cm_sr_cons hsr
    subst hvs1
    have hkq := cm_kdI hkd
    have hcells := hH
    obtain ⟨ws, hP, hD, hwl, h5, h6, hcell, hout, hscr, hxs⟩ := hcells
    have hqn : q < h.2.2.2.2.1 := cm_lt_of hout hkq (by omega) (fun e => by subst e; rw [hscr] at hkq; cases hkq)
    have e1 := cm_vr_c hw (by omega)
    subst e1
    obtain ⟨e0, he, hce⟩ := hcell q hqn
    obtain ⟨fs, rfl⟩ := cm_ce_o hce hkq
    obtain ⟨-, qv, hqv, -, -⟩ := hce
    have hcn : qv.1 = (cm_nm b).cls := by
      rw [t4]
      have : a - 100 = cm_ow b := by omega
      rw [this] at hqv
      exact cm_vw_cn hqv
    have hrecv := va_recv hcx.2.2.1 hP hqv he
    rw [hcn] at hrecv
    have ecw : cm_cw b = .code (cm_nm b) (cm_by b) (cm_mL b) (cm_rt b) := by unfold cm_cw; rw [cm_hh_v hb5 hsc]
    rw [ecw] at hwords
    have M2 := M
    unfold cm_Met at M2
    rw [ecw] at M2
    have hcode := hwords _ List.mem_cons_self args s (State.WarmedH.refl s)
    have hn2 : r1.length = cm_na_ b - 1 := by simp only [List.length_cons] at hvl; omega
    have hstk : (F0 m pc rls ((Value.ref (zB Z + q) :: r1).reverse ++ rb)).stack = r1.reverse ++ .ref (zB Z + q) :: rb := by
      show (Value.ref (zB Z + q) :: r1).reverse ++ rb = _
      simp
    rcases hlk with hlk | hlk
    · exact fin (vx_runV (C := (cm_nm b).cls) (b := zB Z + q) (As := r1) hfix M2 ⟨⟨rfl, rfl, by show cm_fm b + 1 ≤ _; omega, by show 8 + (cm_mL b + 11) + cm_lo b ≤ _; omega, hwords, List.mem_cons_self, hcode, hini, t6, hlen, cm_w hcx args hlk rfl⟩, hin, hsel⟩ ⟨cm_Pc_blind, hrecv, hpre⟩ rfl hn2 hsz3 hstk (lv_room hwr) hd ⟨hc1, hs1⟩)
    · exact fin (vx_runVN (host := "OnceVolume") (C := (cm_nm b).cls) (b := zB Z + q) (As := r1) hfix M2 ⟨⟨⟨rfl, rfl, by show cm_fm b + 1 ≤ _; omega, by show 8 + (cm_mL b + 11) + cm_lo b ≤ _; omega, hwords, List.mem_cons_self⟩, hcode, hini, t6, hlen, cm_w hcx args hlk rfl⟩, hin, hsel⟩ ⟨cm_Pc_blind, hrecv, hpre⟩ rfl hn2 hsz3 hstk (lv_room hwr) hd ⟨hc1, hs1⟩)
  · -- special
    simp only [Bool.and_eq_true, beq_iff_eq, Bool.not_eq_true', decide_eq_true_eq] at hv1
    obtain ⟨hsc, ha0, hni⟩ := hv1
    obtain ⟨hin, -⟩ := t3 hsc
    have hin := cm_w hcx args hin rfl
    rw [hsc] at hlen
    rcases hrc with hrc | ⟨q, as1, rfl, hkd⟩
    · omega
    obtain ⟨w, r1, hvs1, hw, hs2⟩ := cm_sr_cons hsr
    subst hvs1
    obtain ⟨q1, rfl⟩ := cm_vr_r hw
    have ecw : cm_cw b = .code (cm_nm b) (cm_by b) (cm_mL b) none := by unfold cm_cw; rw [cm_hh_v hb5 hsc, cm_rt_i hb5 hni]
    rw [ecw] at hwords
    have M2 := M
    unfold cm_Met at M2
    rw [ecw] at M2
    have hcode := hwords _ List.mem_cons_self args s (State.WarmedH.refl s)
    have hn2 : r1.length = cm_na_ b - 1 := by simp only [List.length_cons] at hvl; omega
    have hstk : (F0 m pc rls ((Value.ref q1 :: r1).reverse ++ rb)).stack = r1.reverse ++ .ref q1 :: rb := by
      show (Value.ref q1 :: r1).reverse ++ rb = _
      simp
    rcases hlk with hlk | hlk
    · exact fin (vx_runI (b := q1) (As := r1) hfix M2 ⟨⟨rfl, rfl, by show cm_fm b + 1 ≤ _; omega, by show 8 + (cm_mL b + 11) + cm_lo b ≤ _; omega, hwords, List.mem_cons_self, hcode, hini, t6, hlen, cm_w hcx args hlk rfl⟩, hni, hin⟩ ⟨cm_Pc_blind, hpre⟩ rfl hn2 hsz3 hstk (lv_room hwr) hd ⟨hc1, hs1⟩)
    · exact fin (vx_runIN (host := "OnceVolume") (b := q1) (As := r1) hfix M2 ⟨⟨⟨rfl, rfl, by show cm_fm b + 1 ≤ _; omega, by show 8 + (cm_mL b + 11) + cm_lo b ≤ _; omega, hwords, List.mem_cons_self⟩, hcode, hini, t6, hlen, cm_w hcx args hlk rfl⟩, hni, hin⟩ ⟨cm_Pc_blind, hpre⟩ rfl hn2 hsz3 hstk (lv_room hwr) hd ⟨hc1, hs1⟩)
end SOC
