/-- a frame's facts -/
def cm_FR (Z : cm_Z) (p : Program) (R : Room) (s : State) (m : MethodId) (meth : Method) (c : Code) (CC SS y : Nat) : Prop :=
  p.tables.exec = Jvm.exec ∧ c.code = cm_by y ∧ c.maxLocals = cm_mL y ∧ s.vm.findClass (cm_cn (cm_ow y)) = some m.cls ∧ cm_cx Z s ∧ ((cm_nm y).name = "<init>" → meth.name = "<init>") ∧ cm_fm y ≤ R.frames ∧ cm_lo y ≤ R.locals ∧ CC ≤ R.cells ∧ SS ≤ R.slots
/-- what a frame's goal must take: an answer, an exception from below, one of its own, a handler -/
def cm_EN (Z : cm_Z) (p : Program) (l : Launch) (e : Env) (R : Room) (s : State) (m : MethodId) (args : Array Value) (below : List Frame) (meth : Method) (c : Code) (Q : State → Prop) (CC SS y : Nat) (r : Option cm_V ⊕ Nat) (hf : cm_H) : Prop :=
  (∀ v, r = .inl v → ∀ (H : Heap) (locs : List Loc) (cells slots : Nat) (rls : Array Slot) (rst : List Value) (pc : Nat), cm_hr Z hf H → va_S (zA Z) s.heap H locs → cells ≤ CC → slots ≤ SS → cm_rq y v rst pc → W p l e R s m args below meth c H locs cells slots Q (F0 m pc rls rst)) ∧
  (∀ x, r = .inr x → ∀ (pc : Nat) (L : cm_L), cm_GX Z p l e R s m args below meth c Q CC SS y hf pc L x hf) ∧
  (∀ x, r = .inr x → ∀ (pc i : Nat) (L : cm_L) (h : cm_H), hf = cm_ex h → cm_ths.any (fun q => q.1 == y && (q.2.1 == pc && (q.2.2.2.1 == i && q.2.2.2.2.2.2 == x))) = true → cm_Go Z p l e R s m args below meth c Q CC SS y hf pc L [] h) ∧
  (∀ (pc x t : Nat) (L : cm_L) (h : cm_H), cm_hn (cm_hs y) pc x = some t → cm_Go Z p l e R s m args below meth c Q CC SS y hf t L [.inr (.inr 300000)] h → cm_GX Z p l e R s m args below meth c Q CC SS y hf pc L x h)
/-- the two calls of texts -/
def cm_HS (Z : cm_Z) (l : Launch) : Prop := ∀ {p : Program} {e : Env} {R : Room} {s : State} {m : MethodId} {args : Array Value} {below : List Frame} {meth : Method} {c : Code} {Q : State → Prop} {CC SS y pc i a : Nat} {hf h : cm_H} {L : cm_L} {st : List cm_V}, cm_FR Z p R s m meth c CC SS y → 6 ≤ R.frames → 100 ≤ R.locals → cm_hle h hf → 200000 ≤ a → a < 200003 → decode (cm_by y) pc = .ok (.invokevirtual i, 3) →
  (cm_pls.any (fun q => q.1 == cm_ow y && (q.2.1 == i && q.2.2.1 == 6)) = true → cm_wd (.inr (.inr a) :: st) ≤ 9 → cm_Go Z p l e R s m args below meth c Q CC SS y hf (pc + 3) L (.inl ((cm_tx (a - 200000)).length : Int) :: st) h → cm_Go Z p l e R s m args below meth c Q CC SS y hf pc L (.inr (.inr a) :: st) h) ∧
  (∀ x : Int, cm_pls.any (fun q => q.1 == cm_ow y && (q.2.1 == i && q.2.2.1 == 7)) = true → cm_wd (.inl x :: .inr (.inr a) :: st) ≤ 9 → (0 ≤ x ∧ x < ((cm_tx (a - 200000)).length : Int)) → cm_Go Z p l e R s m args below meth c Q CC SS y hf (pc + 3) L (.inl ((cm_tx (a - 200000)).getD x.toNat 0) :: st) h → cm_Go Z p l e R s m args below meth c Q CC SS y hf pc L (.inl x :: .inr (.inr a) :: st) h)
set_option maxRecDepth 100000 in
theorem cm_low : ∀ y, y < 295 → 1 ≤ cm_fm y ∧ 100 ≤ cm_lo y := by decide +kernel
theorem cm_en_len (as_ : List cm_V) {n : Nat} (h : as_.length ≤ n) : (cm_en as_ n).length = n := by
  unfold cm_en
  rw [List.length_append, List.length_map, List.length_replicate]
  omega
set_option maxRecDepth 100000 in
theorem cm_hs_d : ∀ b, b < 295 → (cm_sc b = false → cm_hs b = []) ∧ (cm_sc b = false → 0 < cm_na_ b) := by decide +kernel
theorem cm_hs_v {b : Nat} (hb : b < 295) (h : cm_sc b = false) : cm_hs b = [] := (cm_hs_d b hb).1 h
theorem cm_na_pos (b : Nat) (hb : b < 295) (h : cm_sc b = false) : 0 < cm_na_ b := (cm_hs_d b hb).2 h
theorem bb_and {a b : Bool} (h : (a && b) = true) : a = true ∧ b = true := by cases a <;> cases b <;> first | exact ⟨rfl, rfl⟩ | cases h
theorem bb_eq {a b : Nat} (h : (a == b) = true) : a = b := by simpa using h
theorem cm_rq_i {y pc : Nat} {x : Int} {rst : List Value} (h : ∃ i : Int32, rst = [.int i] ∧ i.toInt = x ∧ decode (cm_by y) pc = .ok (.ireturn, 1) ∧ (cm_rt y = some .int ∨ (cm_rt y = some .boolean ∧ (x = 0 ∨ x = 1)))) : cm_rq y (some (.inl x)) rst pc := h
theorem cm_rq_l {y pc : Nat} {x : Int64} {rst : List Value} (h : rst = [.long x] ∧ decode (cm_by y) pc = .ok (.lreturn, 1) ∧ cm_rt y = some .long) : cm_rq y (some (.inr (.inl x))) rst pc := h
theorem cm_rq_n {y pc : Nat} {rst : List Value} (h : rst = [] ∧ decode (cm_by y) pc = .ok (.return_, 1) ∧ cm_rt y = none) : cm_rq y none rst pc := h
section MAIN
variable {Z : cm_Z} {l : Launch}
/-- what the theorem says of a run -/
def cm_P (Z : cm_Z) (l : Launch) (n : Nat) : Prop := ∀ (y pc : Nat) (L : cm_L) (st : List cm_V) (h : cm_H) (r : Option cm_V ⊕ Nat) (hf : cm_H), cm_run n y pc L st h = some (r, hf) → y < 295 → ((cm_hs y ≠ [] ∨ y = 293) → ∃ v, r = .inl v) → ∀ (p : Program) (e : Env) (R : Room) (s : State) (m : MethodId) (args : Array Value) (below : List Frame) (meth : Method) (c : Code) (Q : State → Prop) (CC SS : Nat), cm_FR Z p R s m meth c CC SS y → cm_EN Z p l e R s m args below meth c Q CC SS y r hf → cm_Go Z p l e R s m args below meth c Q CC SS y hf pc L st h
/-- the callee's contract out of it -/
def cm_PM (Z : cm_Z) (l : Launch) (n : Nat) : Prop := ∀ (b : Nat) (as_ : List cm_V) (h : cm_H) (r : Option cm_V ⊕ Nat) (h1 : cm_H), cm_run n b 0 (cm_en as_ (cm_mL b)) [] h = some (r, h1) → b < 295 → b ≠ 293 → as_.length = cm_na_ b → cm_wd as_.reverse ≤ as_.length → (cm_hs b ≠ [] → ∃ v, r = .inl v) → cm_Met Z l b h as_ r h1
set_option maxHeartbeats 8000000 in
theorem cm_step (hS0 : cm_HS Z l) {n : Nat} (IH : cm_P Z l n) (IM : cm_PM Z l n) : cm_P Z l (n + 1) := by
  intro y pc L st h r hf hr hy hres p e R s m args below meth c Q CC SS hFR hEN
  have hFR0 := hFR
  obtain ⟨hx, hb, hml, hown, hcx, hin, hfm, hlo, hCC, hSS⟩ := hFR
  obtain ⟨hlow1, hlow2⟩ := cm_low y hy
  have hfr1 : 1 ≤ R.frames := by omega
  have hlo1 : 100 ≤ R.locals := by omega
  have hr : cm_st (cm_run n) y pc L st h = some (r, hf) := hr
  unfold cm_st at hr
  cases hen : cm_fd (cm_cd y) pc with
  | none => rw [hen] at hr; cases hr
  | some en =>
  rw [hen] at hr
  have hmem := iv_fd hen
  have hoke := List.all_eq_true.mp (cm_okall_11 y hy) _ hmem
  unfold cm_oke at hoke
  simp only [Bool.and_eq_true, decide_eq_true_eq] at hoke
  obtain ⟨hd, ho⟩ := hoke
  have K : ∀ (pc2 : Nat) (L2 : cm_L) (st2 : List cm_V) (h2 : cm_H), cm_run n y pc2 L2 st2 h2 = some (r, hf) → cm_Go Z p l e R s m args below meth c Q CC SS y hf pc2 L2 st2 h2 := fun pc2 L2 st2 h2 q => IH y pc2 L2 st2 h2 r hf q hy hres p e R s m args below meth c Q CC SS hFR0 hEN
  have KH : ∀ (pc2 : Nat) (L2 : cm_L) (st2 : List cm_V) (h2 : cm_H), cm_run n y pc2 L2 st2 h2 = some (r, hf) → cm_hle h2 hf := fun pc2 L2 st2 h2 q => cm_run_hle n y pc2 L2 st2 h2 r hf q
  -- a call
  have CALL : ∀ (i a b nn v : Nat), cm_okcl y i a b nn v = true → decode (cm_by y) pc = .ok ((match v with
      | 0 => .invokestatic i
      | 1 => .invokevirtual i
      | _ => .invokespecial i), 3) → (v = 0 → b = b ∧ (a == 0) = true → (cm_hs b).isEmpty = true ∨ y = 293) → cm_cl (cm_run n) y pc 3 a b nn L st h = some (r, hf) → cm_Go Z p l e R s m args below meth c Q CC SS y hf pc L st h := by
    intro i a b nn v hok hdv hcb hcl
    unfold cm_cl at hcl
    have OWN : (a == 0 || (100).ble a) = true → (∀ as_ rest, st = as_.reverse ++ rest → as_.length = nn → (a = 0 ∨ ∃ q as1, as_ = .inr (.inr q) :: as1 ∧ cm_kd h q 0 (a - 100) = true)) → cm_own (cm_run n) y pc 3 b nn L st h = some (r, hf) → cm_Go Z p l e R s m args below meth c Q CC SS y hf pc L st h := by
      intro ha hrc how
      obtain ⟨as_, rest, r1, h1, hst, hln, hwd, hwa, hrun, hcase⟩ := iv_own how
      have hok2 := hok
      unfold cm_okcl at hok2
      rw [ha] at hok2
      simp only [Bool.and_eq_true, beq_iff_eq] at hok2
      obtain ⟨hb5, hb6, -⟩ := cm_ml_inv hok2.1
      have hle0 := cm_run_hle n b 0 _ [] h r1 h1 hrun
      have hhs : cm_hs b ≠ [] → ∃ v, r1 = .inl v := by
        intro hne
        rcases hcase with ⟨h2, -⟩ | ⟨w, h2, -⟩ | ⟨x, h2, h3⟩
        · exact ⟨_, h2⟩
        · exact ⟨_, h2⟩
        · exfalso
          have hy3 : y = 293 := by
            have hstat : cm_sc b = true := by
              cases hsc : cm_sc b with
              | true => rfl
              | false => exact absurd (cm_hs_v hb5 hsc) hne
            rcases v with _ | v
            · have ha0 : (a == 0) = true := by
                have h7 := hok2.2.2.2.2
                simp only [Bool.and_eq_true] at h7
                exact h7.2
              rcases hcb rfl ⟨rfl, ha0⟩ with h4 | h4
              · exact absurd (by simpa using h4) hne
              · exact h4
            · have h7 := hok2.2.2.2.2
              rcases v with _ | v <;> simp [hstat] at h7
          subst hy3
          obtain ⟨w, hw⟩ := hres (Or.inr rfl)
          have e0 : cm_hs 293 = [] := by decide +kernel
          rw [e0] at h3
          rcases h3 with ⟨-, h4⟩ | ⟨t, h4, -⟩
          · cases h4; cases hw
          · cases h4
      have M := IM b as_ h r1 h1 hrun hb5 hb6 (by rw [hln]; exact hok2.2.1) (by rw [hln]; exact hwa) hhs
      have hle1 : cm_hle h1 hf := by
        rcases hcase with ⟨-, h3⟩ | ⟨w, -, h3⟩ | ⟨x, -, ⟨-, h3⟩ | ⟨t, -, h3⟩⟩
        · exact KH _ _ _ _ h3
        · exact KH _ _ _ _ h3
        · cases h3; exact cm_hle.rf _
        · exact KH _ _ _ _ h3
      refine so_own hx hb hown hcx hml hfm hlo hCC hSS hst hln hwd hok ha (hrc as_ rest hst hln) hdv hle0 hle1 M ?_ ?_ ?_
      · intro h2
        rcases hcase with ⟨-, h3⟩ | ⟨w, h4, -⟩ | ⟨x, h4, -⟩
        · exact K _ _ _ _ h3
        · rw [h2] at h4; cases h4
        · rw [h2] at h4; cases h4
      · intro z h2
        rcases hcase with ⟨h4, -⟩ | ⟨w, h4, h3⟩ | ⟨x, h4, -⟩
        · rw [h2] at h4; cases h4
        · rw [h2] at h4; cases h4; exact K _ _ _ _ h3
        · rw [h2] at h4; cases h4
      · intro z h2
        rcases hcase with ⟨h4, -⟩ | ⟨w, h4, -⟩ | ⟨x, h4, h3⟩
        · rw [h2] at h4; cases h4
        · rw [h2] at h4; cases h4
        · rw [h2] at h4
          cases h4
          rcases h3 with ⟨-, h3⟩ | ⟨t, h5, h3⟩
          · cases h3
            exact hEN.2.1 z rfl pc L
          · exact hEN.2.2.2 pc z t L h1 h5 (K _ _ _ _ h3)
    cases ha : (a == 0) with
    | true =>
      rw [ha] at hcl
      exact OWN (by rw [ha]; rfl) (fun _ _ _ _ => Or.inl (by simpa using ha)) hcl
    | false =>
      rw [ha] at hcl
      have hcl : (match a.blt 100 with
        | true => cm_lib (cm_run n) y (pc + 3) a L st h
        | false => match cm_rc h (a - 100) (st.drop (nn - 1)) with
          | true => cm_own (cm_run n) y pc 3 b nn L st h
          | false => none) = some (r, hf) := hcl
      cases hlt : a.blt 100 with
      | false =>
        rw [hlt] at hcl
        have hge : (100).ble a = true := by
          have : ¬ a < 100 := by
            intro h2
            have : a.blt 100 = true := by simpa using h2
            rw [hlt] at this
            cases this
          exact Nat.ble_eq.mpr (by omega)
        cases hrcv : cm_rc h (a - 100) (st.drop (nn - 1)) with
        | false => rw [hrcv] at hcl; cases hcl
        | true =>
          rw [hrcv] at hcl
          refine OWN (by rw [ha, hge]; rfl) (fun as_ rest hst hln => Or.inr ?_) hcl
          have hok2 := hok
          unfold cm_okcl at hok2
          rw [ha, hge] at hok2
          simp only [Bool.false_or, Bool.and_eq_true, beq_iff_eq] at hok2
          have hnn : 0 < nn := by
            have h7 := hok2.2.1
            have h8 := hok2.2.2.2.2
            obtain ⟨hb5, hb6, -⟩ := cm_ml_inv hok2.1
            have h9 : cm_sc b = false := by
              rcases v with _ | _ | v
              · simp only [Bool.and_eq_true, beq_iff_eq] at h8
                cases h8.2
              · simp only [Bool.and_eq_true, Bool.not_eq_true'] at h8; exact h8.1
              · simp only [Bool.and_eq_true, Bool.not_eq_true'] at h8; exact h8.1
            have h10 := cm_na_pos b hb5 h9
            omega
          subst hst
          exact iv_rc hln hnn hrcv
      | true =>
        rw [hlt] at hcl
        have hcl : cm_lib (cm_run n) y (pc + 3) a L st h = some (r, hf) := hcl
        unfold cm_lib at hcl
        cases hwd : (cm_wd st).ble 16 with
        | false => rw [hwd] at hcl; cases hcl
        | true =>
        rw [hwd] at hcl
        have hwd := Nat.le_of_ble_eq_true hwd
        have hge : (100).ble a = false := by
          cases hz : (100).ble a with
          | false => rfl
          | true =>
            have h2 := Nat.le_of_ble_eq_true hz
            have h3 : a < 100 := by simpa using hlt
            omega
        have hok2 := hok
        unfold cm_okcl at hok2
        rw [ha, hge] at hok2
        simp only [Bool.or_self, Bool.or_eq_true, Bool.and_eq_true, beq_iff_eq] at hok2
        rcases a with _ | _ | _ | _ | _ | _ | _ | _ | a
        · cases ha
        · have hcl : cm_oi st (fun st => cm_run n y (pc + 3) L st h) = some (r, hf) := hcl
          obtain ⟨q, st1, rfl, h3⟩ := iv_oi hcl
          rcases hok2 with h4 | ⟨h4, h5⟩
          · omega
          rcases v with _ | _ | v
          · simp [Nat.ble] at h5
          · simp [Nat.ble] at h5
          · exact so_oi hx hb hown hcx hml hfr1 hlo1 hCC hSS (KH _ _ _ _ h3) h4 hwd hdv (K _ _ _ _ h3)
        · have hcl : cm_i2 cm_mn st (fun st => cm_run n y (pc + 3) L st h) = some (r, hf) := hcl
          obtain ⟨q, q2, st1, rfl, h3⟩ := iv_i2 hcl
          rcases hok2 with h4 | ⟨h4, h5⟩
          · omega
          rcases v with _ | _ | v
          · exact so_min hx hb hown hcx hml hfr1 hlo1 hCC hSS (KH _ _ _ _ h3) h4 hwd hdv (K _ _ _ _ h3)
          · simp [Nat.ble] at h5
          · simp [Nat.ble] at h5
        · have hcl : cm_i2 cm_mx st (fun st => cm_run n y (pc + 3) L st h) = some (r, hf) := hcl
          obtain ⟨q, q2, st1, rfl, h3⟩ := iv_i2 hcl
          rcases hok2 with h4 | ⟨h4, h5⟩
          · omega
          rcases v with _ | _ | v
          · exact so_max hx hb hown hcx hml hfr1 hlo1 hCC hSS (KH _ _ _ _ h3) h4 hwd hdv (K _ _ _ _ h3)
          · simp [Nat.ble] at h5
          · simp [Nat.ble] at h5
        · have hcl : cm_ab st (fun st => cm_run n y (pc + 3) L st h) = some (r, hf) := hcl
          obtain ⟨q, st1, rfl, h3⟩ := iv_ab hcl
          rcases hok2 with h4 | ⟨h4, h5⟩
          · omega
          rcases v with _ | _ | v
          · exact so_abs hx hb hown hcx hml hfr1 hlo1 hCC hSS (KH _ _ _ _ h3) h4 hwd hdv (K _ _ _ _ h3)
          · simp [Nat.ble] at h5
          · simp [Nat.ble] at h5
        · have hcl : cm_cpy h st (fun st h => cm_run n y (pc + 3) L st h) = some (r, hf) := hcl
          obtain ⟨n1, dp, a1, sp, b1, st1, rfl, g1, g2, g3, g4, g5, g6, g7, h3⟩ := iv_cpy hcl
          rcases hok2 with h4 | ⟨h4, h5⟩
          · omega
          rcases v with _ | _ | v
          · exact so_cpy (h := h) hx hb hown hcx hml hfr1 hlo1 hCC hSS (by have q9 := KH _ _ _ _ h3; exact ⟨q9.1, q9.2⟩) h4 hwd g1 g2 g3 g4 g5 g6 g7 hdv (K _ _ _ _ h3)
          · simp [Nat.ble] at h5
          · simp [Nat.ble] at h5
        · have hcl : (match (cm_wd st).ble 9 with
            | true => cm_sln st (fun st => cm_run n y (pc + 3) L st h)
            | false => none) = some (r, hf) := hcl
          cases hwd9 : (cm_wd st).ble 9 with
          | false => rw [hwd9] at hcl; cases hcl
          | true =>
          rw [hwd9] at hcl
          have hwd := Nat.le_of_ble_eq_true hwd9
          have hcl : cm_sln st (fun st => cm_run n y (pc + 3) L st h) = some (r, hf) := hcl
          obtain ⟨q, st1, rfl, g1, g2, h3⟩ := iv_sln hcl
          rcases hok2 with h4 | ⟨h4, h5⟩
          · omega
          rcases v with _ | _ | v
          · simp [Nat.ble] at h5
          · have h6 : 6 ≤ cm_fm y := by simp only [Bool.and_eq_true, Nat.ble_eq] at h5; exact h5.2.2
            exact (hS0 hFR0 (by omega) hlo1 (KH _ _ _ _ h3) g1 g2 hdv).1 h4 hwd (K _ _ _ _ h3)
          · simp [Nat.ble] at h5
        · have hcl : (match (cm_wd st).ble 9 with
            | true => cm_sch st (fun st => cm_run n y (pc + 3) L st h)
            | false => none) = some (r, hf) := hcl
          cases hwd9 : (cm_wd st).ble 9 with
          | false => rw [hwd9] at hcl; cases hcl
          | true =>
          rw [hwd9] at hcl
          have hwd := Nat.le_of_ble_eq_true hwd9
          have hcl : cm_sch st (fun st => cm_run n y (pc + 3) L st h) = some (r, hf) := hcl
          obtain ⟨q, x, st1, rfl, g1, g2, g3, h3⟩ := iv_sch hcl
          rcases hok2 with h4 | ⟨h4, h5⟩
          · omega
          rcases v with _ | _ | v
          · simp [Nat.ble] at h5
          · have h6 : 6 ≤ cm_fm y := by simp only [Bool.and_eq_true, Nat.ble_eq] at h5; exact h5.2.2
            exact (hS0 hFR0 (by omega) hlo1 (KH _ _ _ _ h3) g1 g2 hdv).2 x h4 hwd g3 (K _ _ _ _ h3)
          · simp [Nat.ble] at h5
        · cases hcl
  obtain ⟨i, ln, a, b, cc⟩ := en
  have hd : decode (cm_by y) pc = .ok (i, ln) := hd
  have ho : cm_oki y pc (i, ln, a, b, cc) = true := ho
  cases i with
  | iconst v0 =>
    have hr : cm_run n y (pc + ln) L (.inl v0 :: st) h = some (r, hf) := hr
    have ho : (ln == 1 && decide (-1 ≤ v0 ∧ v0 ≤ 5)) = true := ho
    obtain ⟨h0, ho⟩ := bb_and ho
    have h0 := bb_eq h0
    subst h0
    exact so_iconst hx hb (of_decide_eq_true ho) hd (K _ _ _ _ hr)
  | bipush v0 =>
    have hr : cm_run n y (pc + ln) L (.inl v0 :: st) h = some (r, hf) := hr
    have ho : (ln == 2 && decide (-128 ≤ v0 ∧ v0 ≤ 127)) = true := ho
    obtain ⟨h0, ho⟩ := bb_and ho
    have h0 := bb_eq h0
    subst h0
    exact so_bipush hx hb (of_decide_eq_true ho) hd (K _ _ _ _ hr)
  | sipush v0 =>
    have hr : cm_run n y (pc + ln) L (.inl v0 :: st) h = some (r, hf) := hr
    have ho : (ln == 3 && decide (-32768 ≤ v0 ∧ v0 ≤ 32767)) = true := ho
    obtain ⟨h0, ho⟩ := bb_and ho
    have h0 := bb_eq h0
    subst h0
    exact so_sipush hx hb (of_decide_eq_true ho) hd (K _ _ _ _ hr)
  | lconst v0 =>
    have hr : cm_run n y (pc + ln) L (.inr (.inl (Int64.ofNat v0.val)) :: st) h = some (r, hf) := hr
    have ho : (ln == 1) = true := ho
    have h0 := bb_eq ho
    subst h0
    exact so_lconst hx hb hd (K _ _ _ _ hr)
  | ldc i0 =>
    have hr : cm_kn (cm_run n) y (pc + ln) a b L st h = some (r, hf) := hr
    have ho : (ln == 2 && cm_okk2 y i0 a b) = true := ho
    obtain ⟨h0, ho⟩ := bb_and ho
    have h0 := bb_eq h0
    subst h0
    rcases a with _ | _ | a
    · have hr : cm_run n y (pc + 2) L (.inl (b : Int) :: st) h = some (r, hf) := hr
      exact so_ldcI hx hb hown hcx ho (Or.inl ⟨hd, rfl⟩) (K _ _ _ _ hr)
    · have hr : cm_run n y (pc + 2) L (.inr (.inr b) :: st) h = some (r, hf) := hr
      obtain ⟨k0, hk0, h7⟩ := List.any_eq_true.mp ho
      obtain ⟨h8, h9⟩ := bb_and h7
      exact so_ldcS hx hb hown hcx (List.mem_range.mp hk0) (of_decide_eq_true h8) (bb_eq h9) hd (K _ _ _ _ hr)
    · have h7 : (none : cm_R) = some (r, hf) := hr
      cases h7
  | ldc_w i0 =>
    have hr : cm_kn (cm_run n) y (pc + ln) a b L st h = some (r, hf) := hr
    have ho : (ln == 3 && cm_okk2 y i0 a b) = true := ho
    obtain ⟨h0, ho⟩ := bb_and ho
    have h0 := bb_eq h0
    subst h0
    rcases a with _ | _ | a
    · have hr : cm_run n y (pc + 3) L (.inl (b : Int) :: st) h = some (r, hf) := hr
      exact so_ldcI hx hb hown hcx ho (Or.inr ⟨hd, rfl⟩) (K _ _ _ _ hr)
    · have h7 := List.all_eq_true.mp (cm_noldcw y hy) _ hmem
      have h7 : (!((0 + 1) == 1)) = true := h7
      cases h7
    · have h7 : (none : cm_R) = some (r, hf) := hr
      cases h7
  | ldc2_w i0 =>
    have hr : cm_run n y (pc + ln) L (.inr (.inl (-1)) :: st) h = some (r, hf) := hr
    have ho : (ln == 3 && cm_jls.any (fun q => q.1 == cm_ow y && q.2.1 == i0)) = true := ho
    obtain ⟨h0, ho⟩ := bb_and ho
    have h0 := bb_eq h0
    subst h0
    exact so_ldc2 hx hb hown hcx ho hd (K _ _ _ _ hr)
  | iload i0 =>
    have hr : cm_ild L i0 (fun v => cm_run n y (pc + ln) L (v :: st) h) = some (r, hf) := hr
    have ho : (ln == 2) = true := ho
    have h0 := bb_eq ho
    subst h0
    obtain ⟨x, hl, hr⟩ := iv_ild hr
    exact so_iload hx hb hl hd (K _ _ _ _ hr)
  | iload_n i0 =>
    have hr : cm_ild L i0.val (fun v => cm_run n y (pc + ln) L (v :: st) h) = some (r, hf) := hr
    have ho : (ln == 1) = true := ho
    have h0 := bb_eq ho
    subst h0
    obtain ⟨x, hl, hr⟩ := iv_ild hr
    exact so_iload_n hx hb hl hd (K _ _ _ _ hr)
  | lload i0 =>
    have hr : cm_lld L i0 (fun v => cm_run n y (pc + ln) L (v :: st) h) = some (r, hf) := hr
    have ho : (ln == 2) = true := ho
    have h0 := bb_eq ho
    subst h0
    obtain ⟨x, hl, hr⟩ := iv_lld hr
    exact so_lload hx hb hl hd (K _ _ _ _ hr)
  | lload_n i0 =>
    have hr : cm_lld L i0.val (fun v => cm_run n y (pc + ln) L (v :: st) h) = some (r, hf) := hr
    have ho : (ln == 1) = true := ho
    have h0 := bb_eq ho
    subst h0
    obtain ⟨x, hl, hr⟩ := iv_lld hr
    exact so_lload_n hx hb hl hd (K _ _ _ _ hr)
  | aload i0 =>
    have hr : cm_ald L i0 (fun v => cm_run n y (pc + ln) L (v :: st) h) = some (r, hf) := hr
    have ho : (ln == 2) = true := ho
    have h0 := bb_eq ho
    subst h0
    obtain ⟨x, hl, hr⟩ := iv_ald hr
    exact so_aload hx hb hl hd (K _ _ _ _ hr)
  | aload_n i0 =>
    have hr : cm_ald L i0.val (fun v => cm_run n y (pc + ln) L (v :: st) h) = some (r, hf) := hr
    have ho : (ln == 1) = true := ho
    have h0 := bb_eq ho
    subst h0
    obtain ⟨x, hl, hr⟩ := iv_ald hr
    exact so_aload_n hx hb hl hd (K _ _ _ _ hr)
  | istore i0 =>
    have hr : cm_ist L i0 st (fun ls st => cm_run n y (pc + ln) ls st h) = some (r, hf) := hr
    have ho : (ln == 2) = true := ho
    have h0 := bb_eq ho
    subst h0
    obtain ⟨x, st1, hst, hl, h3⟩ := iv_ist hr
    subst hst
    exact so_istore hx hb hl hd (K _ _ _ _ h3)
  | istore_n i0 =>
    have hr : cm_ist L i0.val st (fun ls st => cm_run n y (pc + ln) ls st h) = some (r, hf) := hr
    have ho : (ln == 1) = true := ho
    have h0 := bb_eq ho
    subst h0
    obtain ⟨x, st1, hst, hl, h3⟩ := iv_ist hr
    subst hst
    exact so_istore_n hx hb hl hd (K _ _ _ _ h3)
  | lstore i0 =>
    have hr : cm_lst L i0 st (fun ls st => cm_run n y (pc + ln) ls st h) = some (r, hf) := hr
    have ho : (ln == 2) = true := ho
    have h0 := bb_eq ho
    subst h0
    obtain ⟨x, st1, hst, hl, h3⟩ := iv_lst hr
    subst hst
    exact so_lstore hx hb hl hd (K _ _ _ _ h3)
  | lstore_n i0 =>
    have hr : cm_lst L i0.val st (fun ls st => cm_run n y (pc + ln) ls st h) = some (r, hf) := hr
    have ho : (ln == 1) = true := ho
    have h0 := bb_eq ho
    subst h0
    obtain ⟨x, st1, hst, hl, h3⟩ := iv_lst hr
    subst hst
    exact so_lstore_n hx hb hl hd (K _ _ _ _ h3)
  | astore i0 =>
    have hr : cm_ast L i0 st (fun ls st => cm_run n y (pc + ln) ls st h) = some (r, hf) := hr
    have ho : (ln == 2) = true := ho
    have h0 := bb_eq ho
    subst h0
    obtain ⟨x, st1, hst, hl, h3⟩ := iv_ast hr
    subst hst
    exact so_astore hx hb hl hd (K _ _ _ _ h3)
  | astore_n i0 =>
    have hr : cm_ast L i0.val st (fun ls st => cm_run n y (pc + ln) ls st h) = some (r, hf) := hr
    have ho : (ln == 1) = true := ho
    have h0 := bb_eq ho
    subst h0
    obtain ⟨x, st1, hst, hl, h3⟩ := iv_ast hr
    subst hst
    exact so_astore_n hx hb hl hd (K _ _ _ _ h3)
  | iinc i0 v0 =>
    have hr : cm_inc L i0 v0 (fun ls => cm_run n y (pc + ln) ls st h) = some (r, hf) := hr
    have ho : (ln == 3 && decide (-32768 ≤ v0 ∧ v0 ≤ 32767)) = true := ho
    obtain ⟨h0, ho⟩ := bb_and ho
    have h0 := bb_eq h0
    subst h0
    obtain ⟨x, hl, hr⟩ := iv_inc hr
    exact so_iinc hx hb (of_decide_eq_true ho) hl hd (K _ _ _ _ hr)
  | iadd =>
    have hr : cm_i2 (fun a b => cm_wr (a + b)) st (fun st => cm_run n y (pc + ln) L st h) = some (r, hf) := hr
    have ho : (ln == 1) = true := ho
    have h0 := bb_eq ho
    subst h0
    obtain ⟨x, x2, st1, hst, h3⟩ := iv_i2 hr
    subst hst
    exact so_iadd hx hb hd (K _ _ _ _ h3)
  | isub =>
    have hr : cm_i2 (fun a b => cm_wr (a - b)) st (fun st => cm_run n y (pc + ln) L st h) = some (r, hf) := hr
    have ho : (ln == 1) = true := ho
    have h0 := bb_eq ho
    subst h0
    obtain ⟨x, x2, st1, hst, h3⟩ := iv_i2 hr
    subst hst
    exact so_isub hx hb hd (K _ _ _ _ h3)
  | imul =>
    have hr : cm_i2 (fun a b => cm_wr (a * b)) st (fun st => cm_run n y (pc + ln) L st h) = some (r, hf) := hr
    have ho : (ln == 1) = true := ho
    have h0 := bb_eq ho
    subst h0
    obtain ⟨x, x2, st1, hst, h3⟩ := iv_i2 hr
    subst hst
    exact so_imul hx hb hd (K _ _ _ _ h3)
  | iand =>
    have hr : cm_i2 cm_and st (fun st => cm_run n y (pc + ln) L st h) = some (r, hf) := hr
    have ho : (ln == 1) = true := ho
    have h0 := bb_eq ho
    subst h0
    obtain ⟨x, x2, st1, hst, h3⟩ := iv_i2 hr
    subst hst
    exact so_iand hx hb hd (K _ _ _ _ h3)
  | ior =>
    have hr : cm_i2 cm_or st (fun st => cm_run n y (pc + ln) L st h) = some (r, hf) := hr
    have ho : (ln == 1) = true := ho
    have h0 := bb_eq ho
    subst h0
    obtain ⟨x, x2, st1, hst, h3⟩ := iv_i2 hr
    subst hst
    exact so_ior hx hb hd (K _ _ _ _ h3)
  | ishl =>
    have hr : cm_i2 cm_shl st (fun st => cm_run n y (pc + ln) L st h) = some (r, hf) := hr
    have ho : (ln == 1) = true := ho
    have h0 := bb_eq ho
    subst h0
    obtain ⟨x, x2, st1, hst, h3⟩ := iv_i2 hr
    subst hst
    exact so_ishl hx hb hd (K _ _ _ _ h3)
  | ishr =>
    have hr : cm_i2 cm_shr st (fun st => cm_run n y (pc + ln) L st h) = some (r, hf) := hr
    have ho : (ln == 1) = true := ho
    have h0 := bb_eq ho
    subst h0
    obtain ⟨x, x2, st1, hst, h3⟩ := iv_i2 hr
    subst hst
    exact so_ishr hx hb hd (K _ _ _ _ h3)
  | iushr =>
    have hr : cm_i2 cm_ushr st (fun st => cm_run n y (pc + ln) L st h) = some (r, hf) := hr
    have ho : (ln == 1) = true := ho
    have h0 := bb_eq ho
    subst h0
    obtain ⟨x, x2, st1, hst, h3⟩ := iv_i2 hr
    subst hst
    exact so_iushr hx hb hd (K _ _ _ _ h3)
  | ladd =>
    have hr : cm_l2 (fun a b => a + b) st (fun st => cm_run n y (pc + ln) L st h) = some (r, hf) := hr
    have ho : (ln == 1) = true := ho
    have h0 := bb_eq ho
    subst h0
    obtain ⟨x, x2, st1, hst, h3⟩ := iv_l2 hr
    subst hst
    exact so_ladd hx hb hd (K _ _ _ _ h3)
  | lmul =>
    have hr : cm_l2 (fun a b => a * b) st (fun st => cm_run n y (pc + ln) L st h) = some (r, hf) := hr
    have ho : (ln == 1) = true := ho
    have h0 := bb_eq ho
    subst h0
    obtain ⟨x, x2, st1, hst, h3⟩ := iv_l2 hr
    subst hst
    exact so_lmul hx hb hd (K _ _ _ _ h3)
  | idiv =>
    have hr : cm_dv st (fun st => cm_run n y (pc + ln) L st h) = some (r, hf) := hr
    have ho : (ln == 1) = true := ho
    have h0 := bb_eq ho
    subst h0
    obtain ⟨x, x2, st1, hst, hn0, h3⟩ := iv_dv hr
    subst hst
    exact so_idiv hx hb hn0 hd (K _ _ _ _ h3)
  | irem =>
    have hr : cm_rm st (fun st => cm_run n y (pc + ln) L st h) = some (r, hf) := hr
    have ho : (ln == 1) = true := ho
    have h0 := bb_eq ho
    subst h0
    obtain ⟨x, x2, st1, hst, hn0, h3⟩ := iv_rm hr
    subst hst
    exact so_irem hx hb hn0 hd (K _ _ _ _ h3)
  | ldiv =>
    have hr : cm_ldv st (fun st => cm_run n y (pc + ln) L st h) = some (r, hf) := hr
    have ho : (ln == 1) = true := ho
    have h0 := bb_eq ho
    subst h0
    obtain ⟨x, x2, st1, hst, hn0, h3⟩ := iv_ldv hr
    subst hst
    exact so_ldiv hx hb hn0 hd (K _ _ _ _ h3)
  | lcmp =>
    have hr : cm_lcm st (fun st => cm_run n y (pc + ln) L st h) = some (r, hf) := hr
    have ho : (ln == 1) = true := ho
    have h0 := bb_eq ho
    subst h0
    obtain ⟨x, x2, st1, hst, h3⟩ := iv_lcm hr
    subst hst
    exact so_lcmp hx hb hd (K _ _ _ _ h3)
  | i2l =>
    have hr : cm_i2l st (fun st => cm_run n y (pc + ln) L st h) = some (r, hf) := hr
    have ho : (ln == 1) = true := ho
    have h0 := bb_eq ho
    subst h0
    obtain ⟨x, st1, hst, h3⟩ := iv_i2l hr
    subst hst
    exact so_i2l hx hb hd (K _ _ _ _ h3)
  | dup =>
    have hr : cm_dup st (fun st => cm_run n y (pc + ln) L st h) = some (r, hf) := hr
    have ho : (ln == 1) = true := ho
    have h0 := bb_eq ho
    subst h0
    obtain ⟨x, st1, hst, hc1, h3⟩ := iv_dup hr
    subst hst
    exact so_dup hx hb hc1 hd (K _ _ _ _ h3)
  | pop =>
    have hr : cm_pop st (fun st => cm_run n y (pc + ln) L st h) = some (r, hf) := hr
    have ho : (ln == 1) = true := ho
    have h0 := bb_eq ho
    subst h0
    obtain ⟨x, st1, hst, hc1, h3⟩ := iv_pop hr
    subst hst
    exact so_pop hx hb hc1 hd (K _ _ _ _ h3)
  | dup2 =>
    have hr : cm_dp2 st (fun st => cm_run n y (pc + ln) L st h) = some (r, hf) := hr
    have ho : (ln == 1) = true := ho
    have h0 := bb_eq ho
    subst h0
    obtain ⟨x, x2, st1, hst, hc1, hc2, h3⟩ := iv_dp2 hr
    subst hst
    exact so_dup2 hx hb hc1 hc2 hd (K _ _ _ _ h3)
  | goto o =>
    have hr : cm_run n y (cm_tgt pc o) (cm_fg a L) st h = some (r, hf) := hr
    have ho : (ln == 3 && cm_tg pc o) = true := ho
    obtain ⟨h0, ho⟩ := bb_and ho
    have h0 := bb_eq h0
    subst h0
    exact so_goto hx hb ho hd (K _ _ _ _ hr)
  | ifCond c0 o =>
    have hr : cm_if1 c0 st (fun st => cm_run n y (cm_tgt pc o) L st h) (fun st => cm_run n y (pc + ln) L st h) = some (r, hf) := hr
    have ho : (ln == 3 && cm_tg pc o) = true := ho
    obtain ⟨h0, ho⟩ := bb_and ho
    have h0 := bb_eq h0
    subst h0
    obtain ⟨x, st1, hst, hcase⟩ := iv_if1 hr
    subst hst
    rcases hcase with ⟨h2, h3⟩ | ⟨h2, h3⟩
    · exact so_if hx hb ho hd (fun _ => K _ _ _ _ h3) (fun z => absurd h2 z)
    · exact so_if hx hb ho hd (fun z => absurd z h2) (fun _ => K _ _ _ _ h3)
  | if_icmp c0 o =>
    have hr : cm_if2 c0 st (fun st => cm_run n y (cm_tgt pc o) L st h) (fun st => cm_run n y (pc + ln) L st h) = some (r, hf) := hr
    have ho : (ln == 3 && cm_tg pc o) = true := ho
    obtain ⟨h0, ho⟩ := bb_and ho
    have h0 := bb_eq h0
    subst h0
    obtain ⟨x, x2, st1, hst, hcase⟩ := iv_if2 hr
    subst hst
    rcases hcase with ⟨h2, h3⟩ | ⟨h2, h3⟩
    · exact so_icmp hx hb ho hd (fun _ => K _ _ _ _ h3) (fun z => absurd h2 z)
    · exact so_icmp hx hb ho hd (fun z => absurd z h2) (fun _ => K _ _ _ _ h3)
  | tableswitch d lo hi os =>
    have ho : (cm_tg pc d && (os.toList.all (cm_tg pc) && decide (hi - lo + 1 = (os.toList.length : Int)))) = true := ho
    obtain ⟨h0, ho⟩ := bb_and ho
    obtain ⟨h1, ho⟩ := bb_and ho
    have ho := of_decide_eq_true ho
    rcases st with _ | ⟨x | x | x, st⟩
    · have h7 : (none : cm_R) = some (r, hf) := hr
      cases h7
    · have hr : cm_tsw os.toList x lo (cm_run n y (cm_tgt pc d) L st h) (fun o => cm_run n y (cm_tgt pc o) L st h) = some (r, hf) := hr
      rcases cm_tsw_inv _ _ hr with ⟨h2, h3⟩ | ⟨o, g1, g2, g3, h3⟩
      · exact so_tsw hx hb h0 h1 ho hd (fun _ => K _ _ _ _ h3) (fun o g1 g2 _ => by exfalso; omega)
      · exact so_tsw hx hb h0 h1 ho hd (fun z => by exfalso; omega) (fun o' _ _ g4 => by rw [g3] at g4; cases g4; exact K _ _ _ _ h3)
    · have h7 : (none : cm_R) = some (r, hf) := hr
      cases h7
    · have h7 : (none : cm_R) = some (r, hf) := hr
      cases h7
  | lookupswitch d ps =>
    have ho : (cm_tg pc d && (ps.toList.all (fun q => cm_tg pc q.2) && (ps.toList.zip (ps.toList.drop 1)).all (fun (a, next) => a.1 < next.1))) = true := ho
    obtain ⟨h0, ho⟩ := bb_and ho
    obtain ⟨h1, ho⟩ := bb_and ho
    rcases st with _ | ⟨x | x | x, st⟩
    · have h7 : (none : cm_R) = some (r, hf) := hr
      cases h7
    · have hr : cm_lsw ps.toList x (cm_run n y (cm_tgt pc d) L st h) (fun o => cm_run n y (cm_tgt pc o) L st h) = some (r, hf) := hr
      rcases cm_lsw_inv (df := d) _ ho hr with ⟨h2, h3⟩ | ⟨q, hq, h2, h3⟩
      · exact so_lsw hx hb h0 ho h2 hd (K _ _ _ _ h3)
      · exact so_lsw hx hb (List.all_eq_true.mp h1 q hq) ho h2 hd (K _ _ _ _ h3)
    · have h7 : (none : cm_R) = some (r, hf) := hr
      cases h7
    · have h7 : (none : cm_R) = some (r, hf) := hr
      cases h7
  | getfield i0 =>
    have hr : cm_gf h a b cc st (fun st => cm_run n y (pc + ln) L st h) = some (r, hf) := hr
    have ho : (ln == 3 && cm_fls.any (fun q => q.1 == cm_ow y && (q.2.1 == i0 && (q.2.2.2.1 == a && (q.2.2.2.2.1 == b && q.2.2.2.2.2.1 == cc))))) = true := ho
    obtain ⟨h0, ho⟩ := bb_and ho
    have h0 := bb_eq h0
    subst h0
    obtain ⟨q, st1, hst, hk, hcase⟩ := iv_gf hr
    subst hst
    rcases hcase with ⟨ht, h3⟩ | ⟨ht, hlt, h3⟩
    · exact so_getI hx hb hown hcx ht ho hk hd (K _ _ _ _ h3)
    · subst ht
      exact so_getR hx hb hown hcx hlt ho hk hd (K _ _ _ _ h3)
  | putfield i0 =>
    have hr : cm_pf h a b cc st (fun st h => cm_run n y (pc + ln) L st h) = some (r, hf) := hr
    have ho : (ln == 3 && (cm_fls.any (fun q => q.1 == cm_ow y && (q.2.1 == i0 && (q.2.2.1 == 0 && (q.2.2.2.1 == a && (q.2.2.2.2.1 == b && q.2.2.2.2.2.1 == cc))))) && cm_okpf y b cc)) = true := ho
    obtain ⟨h0, ho⟩ := bb_and ho
    have h0 := bb_eq h0
    subst h0
    obtain ⟨v, q, st1, h1, hst, hk, hcase, h3⟩ := iv_pf hr
    subst hst
    exact so_put hx hb hown hcx hin ho hk hcase hd (K _ _ _ _ h3)
  | iaload =>
    have hr : cm_al h 1 st (fun st => cm_run n y (pc + ln) L st h) = some (r, hf) := hr
    have ho : (ln == 1) = true := ho
    have h0 := bb_eq ho
    subst h0
    obtain ⟨q, x, st1, hst, hk, hi, h3⟩ := iv_al hr
    subst hst
    exact so_al hx hb hcx hk hi hd (K _ _ _ _ h3)
  | baload =>
    have hr : cm_al h 2 st (fun st => cm_run n y (pc + ln) L st h) = some (r, hf) := hr
    have ho : (ln == 1) = true := ho
    have h0 := bb_eq ho
    subst h0
    obtain ⟨q, x, st1, hst, hk, hi, h3⟩ := iv_al hr
    subst hst
    exact so_zl hx hb hcx hk hi hd (K _ _ _ _ h3)
  | iastore =>
    have hr : cm_as h 1 st (fun st h => cm_run n y (pc + ln) L st h) = some (r, hf) := hr
    have ho : (ln == 1) = true := ho
    have h0 := bb_eq ho
    subst h0
    obtain ⟨q, x, v, st1, hst, hk, han, hi, h3⟩ := iv_as1 hr
    subst hst
    exact so_as hx hb hcx hk han hi hd (K _ _ _ _ h3)
  | bastore =>
    have hr : cm_as h 2 st (fun st h => cm_run n y (pc + ln) L st h) = some (r, hf) := hr
    have ho : (ln == 1) = true := ho
    have h0 := bb_eq ho
    subst h0
    obtain ⟨q, x, v, st1, hst, hk, han, hi, h3⟩ := iv_as2 hr
    subst hst
    exact so_zs hx hb hcx hk hi hd (K _ _ _ _ h3)
  | laload =>
    have hr : cm_jl h st (fun st => cm_run n y (pc + ln) L st h) = some (r, hf) := hr
    have ho : (ln == 1) = true := ho
    have h0 := bb_eq ho
    subst h0
    obtain ⟨q, x, st1, hst, hk, hi, h3⟩ := iv_jl hr
    subst hst
    exact so_jl hx hb hcx hk hi hd (K _ _ _ _ h3)
  | lastore =>
    have hr : cm_js h st (fun st h => cm_run n y (pc + ln) L st h) = some (r, hf) := hr
    have ho : (ln == 1) = true := ho
    have h0 := bb_eq ho
    subst h0
    obtain ⟨q, x, v, st1, hst, hk, hi, h3⟩ := iv_js hr
    subst hst
    exact so_js hx hb hcx hk hi hd (K _ _ _ _ h3)
  | aaload =>
    have hr : cm_rl h st (fun st => cm_run n y (pc + ln) L st h) = some (r, hf) := hr
    have ho : (ln == 1) = true := ho
    have h0 := bb_eq ho
    subst h0
    obtain ⟨q, x, st1, hst, hk, hi, hlt, h3⟩ := iv_rl hr
    subst hst
    exact so_rl hx hb hcx hk hi hlt hd (K _ _ _ _ h3)
  | aastore =>
    have hr : cm_rs h st (fun st h => cm_run n y (pc + ln) L st h) = some (r, hf) := hr
    have ho : (ln == 1) = true := ho
    have h0 := bb_eq ho
    subst h0
    obtain ⟨q, x, v, st1, hst, hk, hkv, hi, h3⟩ := iv_rs hr
    subst hst
    exact so_rs hx hb hcx hk hkv hi hd (K _ _ _ _ h3)
  | arraylength =>
    have hr : cm_ln h st (fun st => cm_run n y (pc + ln) L st h) = some (r, hf) := hr
    have ho : (ln == 1) = true := ho
    have h0 := bb_eq ho
    subst h0
    obtain ⟨q, st1, hst, hk, h3⟩ := iv_ln hr
    subst hst
    exact so_ln hx hb hcx hk hd (K _ _ _ _ h3)
  | newarray t =>
    have hr : cm_na h (cm_at_ t) st (fun st h => cm_run n y (pc + ln) L st h) = some (r, hf) := hr
    have ho : (ln == 2 && (cm_at_ t).blt 9) = true := ho
    obtain ⟨h0, ho⟩ := bb_and ho
    have h0 := bb_eq h0
    subst h0
    obtain ⟨n1, st1, hst, he, h9, hn1, h3⟩ := iv_na hr
    subst hst
    exact so_newa hx hb hcx hml hfr1 hlo1 hCC hSS ho he h9 hn1 (KH _ _ _ _ h3) hd (K _ _ _ _ h3)
  | anewarray i0 =>
    have hr : cm_na h 4 st (fun st h => cm_run n y (pc + ln) L st h) = some (r, hf) := hr
    have ho : (ln == 3 && cm_cls.any (fun q => q.1 == cm_ow y && (q.2.1 == i0 && q.2.2.1 == 6))) = true := ho
    obtain ⟨h0, ho⟩ := bb_and ho
    have h0 := bb_eq h0
    subst h0
    obtain ⟨n1, st1, hst, he, h9, hn1, h3⟩ := iv_na hr
    subst hst
    exact so_anew hx hb hown hcx hml hfr1 hlo1 hCC hSS ho he h9 hn1 (KH _ _ _ _ h3) hd (K _ _ _ _ h3)
  | new i0 =>
    rcases a with _ | a
    · have hr : cm_nw h b cc st (fun st h => cm_run n y (pc + ln) L st h) = some (r, hf) := hr
      have ho : (ln == 3 && cm_cls.any (fun q => q.1 == cm_ow y && (q.2.1 == i0 && (q.2.2.1 == b && q.2.2.2.1 == cc)))) = true := ho
      obtain ⟨h0, ho⟩ := bb_and ho
      have h0 := bb_eq h0
      subst h0
      obtain ⟨he, h9, h3⟩ := iv_nw hr
      exact so_new hx hb hown hcx hml hfr1 hlo1 hCC hSS ho he h9 (KH _ _ _ _ h3) hd (K _ _ _ _ h3)
    · have ho : (ln == 3 && cm_ths.any (fun q => q.1 == y && (q.2.1 == pc && (q.2.2.2.1 == i0 && q.2.2.2.2.2.2 == b)))) = true := ho
      obtain ⟨h0, ho⟩ := bb_and ho
      rcases st with _ | ⟨x, st⟩
      · have hr : some (Sum.inr b, cm_ex h) = some (r, hf) := hr
        have h8 := Option.some.inj hr
        have e1 : r = .inr b := (congrArg Prod.fst h8).symm
        have e2 : hf = cm_ex h := (congrArg Prod.snd h8).symm
        exact hEN.2.2.1 b e1 pc i0 L h e2 ho
      · have h7 : (none : cm_R) = some (r, hf) := hr
        cases h7
  | invokevirtual i0 =>
    have hr : cm_cl (cm_run n) y pc ln a b cc L st h = some (r, hf) := hr
    have ho : (ln == 3 && cm_okcl y i0 a b cc 1) = true := ho
    obtain ⟨h0, ho⟩ := bb_and ho
    have h0 := bb_eq h0
    subst h0
    exact CALL i0 a b cc 1 ho hd (fun h7 => by cases h7) hr
  | invokestatic i0 =>
    have hr : cm_cl (cm_run n) y pc ln a b cc L st h = some (r, hf) := hr
    have ho : (ln == 3 && cm_okcl y i0 a b cc 0) = true := ho
    obtain ⟨h0, ho⟩ := bb_and ho
    have h0 := bb_eq h0
    subst h0
    refine CALL i0 a b cc 0 ho hd (fun _ ha => ?_) hr
    by_cases hy3 : y = 293
    · exact Or.inr hy3
    · left
      have h7 := List.all_eq_true.mp (cm_hcall y hy hy3) _ hmem
      have h7 : (match a == 0 with
        | true => (cm_hs b).isEmpty || !true
        | false => true) = true := h7
      rw [ha.2] at h7
      simpa using h7
  | invokespecial i0 =>
    have hr : cm_cl (cm_run n) y pc ln a b cc L st h = some (r, hf) := hr
    have ho : (ln == 3 && cm_okcl y i0 a b cc 2) = true := ho
    obtain ⟨h0, ho⟩ := bb_and ho
    have h0 := bb_eq h0
    subst h0
    exact CALL i0 a b cc 2 ho hd (fun h7 => by cases h7) hr
  | ireturn =>
    have hoo : ln = 1 ∧ (a = 0 → cm_rt y = some .int) ∧ (a ≠ 0 → cm_rt y = some .boolean) := by
      rcases a with _ | a
      · have ho : (ln == 1 && decide (cm_rt y = some .int)) = true := ho
        obtain ⟨h0, h1⟩ := bb_and ho
        exact ⟨bb_eq h0, fun _ => of_decide_eq_true h1, fun h => absurd rfl h⟩
      · have ho : (ln == 1 && decide (cm_rt y = some .boolean)) = true := ho
        obtain ⟨h0, h1⟩ := bb_and ho
        exact ⟨bb_eq h0, (fun h => by cases h), fun _ => of_decide_eq_true h1⟩
    obtain ⟨h0, hoo, hop⟩ := hoo
    subst h0
    rcases st with _ | ⟨x | x | x, _ | ⟨z, st⟩⟩
    · have h7 : (none : cm_R) = some (r, hf) := hr
      cases h7
    · have hq0 : some (.inl (some (.inl x)), h) = some (r, hf) ∧ (cm_rt y = some .int ∨ (cm_rt y = some .boolean ∧ (x = 0 ∨ x = 1))) := by
        rcases a with _ | a
        · exact ⟨hr, Or.inl (hoo rfl)⟩
        · have hr : cm_ck (x = 0 ∨ x = 1) (some (.inl (some (.inl x)), h)) = some (r, hf) := hr
          obtain ⟨h2, h3⟩ := iv_ck hr
          exact ⟨h3, Or.inr ⟨hop (by omega), h2⟩⟩
      obtain ⟨h8, hq1⟩ := hq0
      have h8 := Option.some.inj h8
      have e1 : r = .inl (some (.inl x)) := (congrArg Prod.fst h8).symm
      have e2 : hf = h := (congrArg Prod.snd h8).symm
      intro H locs cells slots rls rst hH hS hn hL hs hz hc hq
      obtain ⟨j, r2, rfl, hj, hs2⟩ := cm_sr_i hs
      have h9 := cm_sr_nil hs2
      subst h9
      rw [e2] at hc hq
      exact hEN.1 _ e1 H locs cells slots rls _ pc (by rw [e2]; exact hH) hS (by omega) (by omega) (cm_rq_i ⟨j, rfl, hj, hd, hq1⟩)
    · have h7 : (none : cm_R) = some (r, hf) := hr
      cases h7
    · have h7 : (none : cm_R) = some (r, hf) := hr
      cases h7
    · have h7 : (none : cm_R) = some (r, hf) := hr
      cases h7
    · have h7 : (none : cm_R) = some (r, hf) := hr
      cases h7
    · have h7 : (none : cm_R) = some (r, hf) := hr
      cases h7
  | lreturn =>
    have ho : (ln == 1 && decide (cm_rt y = some .long)) = true := ho
    obtain ⟨h0, ho⟩ := bb_and ho
    have hoo := of_decide_eq_true ho
    have h0 := bb_eq h0
    subst h0
    rcases st with _ | ⟨x | x | x, _ | ⟨z, st⟩⟩
    · have h7 : (none : cm_R) = some (r, hf) := hr
      cases h7
    · have h7 : (none : cm_R) = some (r, hf) := hr
      cases h7
    · have h7 : (none : cm_R) = some (r, hf) := hr
      cases h7
    · have hr : some (Sum.inl (some (.inr (.inl x))), h) = some (r, hf) := hr
      have h8 := Option.some.inj hr
      have e1 : r = .inl (some (.inr (.inl x))) := (congrArg Prod.fst h8).symm
      have e2 : hf = h := (congrArg Prod.snd h8).symm
      intro H locs cells slots rls rst hH hS hn hL hs hz hc hq
      obtain ⟨r2, rfl, hs2⟩ := cm_sr_l hs
      have h9 := cm_sr_nil hs2
      subst h9
      rw [e2] at hc hq
      exact hEN.1 _ e1 H locs cells slots rls _ pc (by rw [e2]; exact hH) hS (by omega) (by omega) (cm_rq_l ⟨rfl, hd, hoo⟩)
    · have h7 : (none : cm_R) = some (r, hf) := hr
      cases h7
    · have h7 : (none : cm_R) = some (r, hf) := hr
      cases h7
    · have h7 : (none : cm_R) = some (r, hf) := hr
      cases h7
  | return_ =>
    have ho : (ln == 1 && decide (cm_rt y = none)) = true := ho
    obtain ⟨h0, ho⟩ := bb_and ho
    have hoo := of_decide_eq_true ho
    have h0 := bb_eq h0
    subst h0
    rcases st with _ | ⟨x, st⟩
    · have hr : some (Sum.inl none, h) = some (r, hf) := hr
      have h8 := Option.some.inj hr
      have e1 : r = .inl none := (congrArg Prod.fst h8).symm
      have e2 : hf = h := (congrArg Prod.snd h8).symm
      intro H locs cells slots rls rst hH hS hn hL hs hz hc hq
      have h9 := cm_sr_nil hs
      subst h9
      rw [e2] at hc hq
      exact hEN.1 _ e1 H locs cells slots rls _ pc (by rw [e2]; exact hH) hS (by omega) (by omega) (cm_rq_n ⟨rfl, hd, hoo⟩)
    · have h7 : (none : cm_R) = some (r, hf) := hr
      cases h7
  | _ =>
    have h7 : (none : cm_R) = some (r, hf) := hr
    cases h7
end MAIN
