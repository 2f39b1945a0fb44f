/-! the law's entry: all that the plain machine stands on; the claim out of a run of it -/
theorem cm_stk {l : Launch} (h : l.flags = flags0) : l.stackTraces = false := by
  unfold Launch.stackTraces
  rw [h]
  decide
theorem cm_all3 {P : Nat → Prop} (h0 : P 0) (h1 : P 1) (h2 : P 2) : ∀ i, i < 3 → P i := by
  intro i hi
  rcases i with _ | _ | _ | i
  · exact h0
  · exact h1
  · exact h2
  · omega
def cm_nar : List Cond := flatC (Jvm.Cond.and given_1 narrow_1)
def cm_tm1 (i : Nat) : Term := .string "OnceVolume$Reader" (match i with
  | 0 => 74
  | 1 => 83
  | _ => 87)
def cm_tm2 (i : Nat) : Term := .string "OnceVolumeModel" (match i with
  | 0 => 164
  | 1 => 173
  | _ => 177)
def cm_okt (tm : Nat → Term) : Prop := (∀ i, i < 3 → Cond.exactly (tm i) "java/lang/String" ∈ cm_nar) ∧ (∀ i, i < 3 → Cond.eq (.field (tm i) "java/lang/String" "coder" "B") (.int 0) ∈ cm_nar) ∧ (∀ i, i < 3 → Cond.arrayOf (.field (tm i) "java/lang/String" "value" "[B") .byte ∈ cm_nar) ∧ (∀ i, i < 3 → Cond.eq (.length (.field (tm i) "java/lang/String" "value" "[B")) (.int (Int32.ofNat (cm_len.getD i 0))) ∈ cm_nar) ∧
  (∀ i, i < 3 → ∀ j, j < cm_len.getD i 0 → Cond.eq (.elem (.field (tm i) "java/lang/String" "value" "[B") (.int (Int32.ofNat j))) (.int ((cm_byt.getD i []).getD j 0)) ∈ cm_nar) ∧ (∀ i, i < 3 → ∀ j, j < 3 → i ≠ j → Cond.not (Cond.eq (tm i) (tm j)) ∈ cm_nar ∨ Cond.not (Cond.eq (tm j) (tm i)) ∈ cm_nar)
set_option maxRecDepth 100000 in
theorem cm_okt1 : cm_okt cm_tm1 := ⟨by decide +kernel, by decide +kernel, by decide +kernel, by decide +kernel, by decide +kernel, by decide +kernel⟩
set_option maxRecDepth 100000 in
theorem cm_okt2 : cm_okt cm_tm2 := ⟨by decide +kernel, by decide +kernel, by decide +kernel, by decide +kernel, by decide +kernel, by decide +kernel⟩
theorem cm_len_lt : ∀ i, i < 3 → cm_len.getD i 0 < 2 ^ 31 := by decide
set_option maxRecDepth 100000 in
theorem cm_strs_in : ∀ q ∈ cm_strs, Cond.stringRef q.1 q.2.1 q.2.2 ∈ lw_tbl ∧ Cond.exactly (.string q.1 q.2.1) "java/lang/String" ∈ cm_nar := by decide +kernel
set_option maxRecDepth 100000 in
theorem cm_lits_in : ∀ q ∈ cm_lits, Cond.stringRef q.1 q.2.1 q.2.2 ∈ lw_tbl := by decide +kernel
theorem cm_lits_tm : ∀ i, i < 6 → (cm_lits[i]?).map (fun q => Term.string q.1 q.2.1) = some (if i < 3 then cm_tm1 i else cm_tm2 (i - 3)) := by decide
theorem cm_ins : ∀ c, c < 10 → (cm_vw[c]?).map (fun q => decide (Cond.instantiable q.1 q.2.2 ∈ lw_tbl)) = some true := by decide +kernel
theorem cm_arr {s : State} {args : Array Value} {ty : FieldType} (h : (Cond.arrayClass ty).before args s = true) : ∃ cA, ArrOfT s cA ty ∧ s.vm.findClass ("[" ++ ty.toString) = some cA := by
  obtain ⟨c, k, comp, h1, h2, h3⟩ := Cond.arrayClass_spec h
  exact ⟨c, fun n z => ⟨fun k h => (by cases h), k, h2, comp, h3⟩, h1⟩
theorem cm_law_b1 : cm_by 293 = code := rfl
theorem cm_law_b2 : cm_mL 293 = 8 := rfl
theorem cm_law_b3 : cm_cn (cm_ow 293) = R_law := rfl
theorem cm_law_b4 : cm_fm 293 ≤ room_1.frames ∧ cm_lo 293 ≤ room_1.locals := by decide +kernel
theorem cm_law_b5 : room_1.cells = 601024 ∧ room_1.slots = 7293034 := ⟨rfl, rfl⟩
theorem cm_law_b6 : cm_hs 293 = [] := by decide +kernel
theorem cm_law_b7 : (cm_nm 293).name ≠ "<init>" := by decide +kernel
