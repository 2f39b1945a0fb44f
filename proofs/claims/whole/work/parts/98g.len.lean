/-! how many contents a writing has -/
variable {D E : Nat → Int → Int} {X : cm_X} {K B K' B' A F : Int → Int} {h pk t c : Int} {S : Nat → Int → Int} {r : Int → Int}
def sm (f : Int → Int) : Nat → Int
  | 0 => 0
  | n + 1 => sm f n + f n
theorem sm_cg {f g : Int → Int} : ∀ n : Nat, (∀ i : Int, 0 ≤ i → i < n → f i = g i) → sm f n = sm g n := by
  intro n
  induction n with
  | zero => intro _; rfl
  | succ n ih =>
    intro hq
    rw [sm, sm, ih (fun i a b => hq i a (by omega)), hq n (by omega) (by omega)]
theorem sm_add {f g : Int → Int} : ∀ n : Nat, sm (fun i => f i + g i) n = sm f n + sm g n := by
  intro n
  induction n with
  | zero => rfl
  | succ n ih =>
    rw [sm, sm, sm, ih]
    omega
theorem sm_0 : ∀ n : Nat, sm (fun _ => 0) n = 0 := by
  intro n
  induction n with
  | zero => rfl
  | succ n ih => rw [sm, ih]; rfl
theorem sm_x {F : Int → Int → Int} (m : Nat) : ∀ n : Nat, sm (fun i => sm (fun j => F i j) m) n = sm (fun j => sm (fun i => F i j) n) m := by
  intro n
  induction n with
  | zero =>
    rw [sm]
    exact (sm_0 m).symm
  | succ n ih =>
    rw [sm, ih, ← sm_add]
    rfl
theorem sm_1 {a x : Int} : ∀ n : Nat, sm (fun k => if k = a then x else 0) n = if 0 ≤ a ∧ a < n then x else 0 := by
  intro n
  induction n with
  | zero => rw [sm, if_neg (by omega)]
  | succ n ih =>
    rw [sm, ih]
    by_cases h1 : 0 ≤ a ∧ a < n
    · rw [if_pos h1, if_neg (by omega), if_pos (by omega)]
      omega
    · rw [if_neg h1]
      by_cases h2 : (n : Int) = a
      · rw [if_pos h2, if_pos (by omega)]
        omega
      · rw [if_neg h2, if_neg (by omega)]
        rfl
/-- names by virtual: each that is there once -/
theorem sm_nm {g : Int → Int} {N : Int → Int} {V : Int → Int} (h1 : ∀ v, N v ≠ -1 → (0 ≤ N v ∧ N v < 12) ∧ V (N v) = v) (h2 : ∀ v, N v = -1 → ∀ n, 0 ≤ n → n < 12 → V n ≠ v) (h3 : ∀ n m, 0 ≤ n → n < 12 → 0 ≤ m → m < 12 → V n = V m → V n ≠ 0 → n = m) (h4 : ∀ n, 0 ≤ n → n < 12 → g n ≠ 0 → 1 ≤ V n ∧ V n ≤ 12) : sm (fun k => if N (k + 1) = -1 then 0 else g (N (k + 1))) 12 = sm g 12 := by
  have a1 : sm (fun k => if N (k + 1) = -1 then 0 else g (N (k + 1))) 12 = sm (fun k => sm (fun n => if V n = k + 1 then g n else 0) 12) 12 := by
    refine sm_cg 12 fun k k0 k1 => ?_
    by_cases hq : N (k + 1) = -1
    · rw [if_pos hq]
      refine (sm_0 12).symm.trans (sm_cg 12 fun n n0 n1 => ?_)
      rw [if_neg (h2 _ hq n n0 (by omega))]
    · rw [if_neg hq]
      obtain ⟨b1, b2⟩ := h1 _ hq
      have e : sm (fun n => if V n = k + 1 then g n else 0) 12 = sm (fun n => if n = N (k + 1) then g (N (k + 1)) else 0) 12 := by
        refine sm_cg 12 fun n n0 n1 => ?_
        by_cases hn : n = N (k + 1)
        · rw [if_pos hn, hn, if_pos b2]
        · rw [if_neg hn]
          by_cases hv : V n = k + 1
          · exact absurd (h3 n (N (k + 1)) n0 (by omega) b1.1 b1.2 (by rw [hv, b2]) (by omega)) hn
          · rw [if_neg hv]
      rw [e, sm_1, if_pos (by omega)]
  have a2 : sm (fun n => sm (fun k => if V n = k + 1 then g n else 0) 12) 12 = sm g 12 := by
    refine sm_cg 12 fun n n0 n1 => ?_
    have e : sm (fun k => if V n = k + 1 then g n else 0) 12 = sm (fun k => if k = V n - 1 then g n else 0) 12 := by
      refine sm_cg 12 fun k k0 k1 => ?_
      by_cases hv : V n = k + 1
      · rw [if_pos hv, if_pos (by omega)]
      · rw [if_neg hv, if_neg (by omega)]
    rw [e, sm_1]
    by_cases hg : g n = 0
    · rw [hg]
      exact ite_self _
    · have := h4 n n0 (by omega) hg
      rw [if_pos (by omega)]
  rw [a1, sm_x 12 12, a2]
theorem pcs_n (n : Int) : ∀ c : Nat, c ≤ 8 → ((pcs (stt D 15) n c).length : Int) = smw (cNew D n) c ∧ 0 ≤ smw (cNew D n) c ∧ smw (cNew D n) c ≤ c := by
  intro c
  induction c with
  | zero => intro _; exact ⟨rfl, Int.le_refl _, Int.le_refl _⟩
  | succ c ih =>
    intro hc
    obtain ⟨i1, i2, i3⟩ := ih (by omega)
    have hb : cNew D n c = 0 ∨ cNew D n c = 1 := by
      unfold cNew
      split
      · exact Or.inr rfl
      · exact Or.inl rfl
    have e : smw (cNew D n) (c + 1) = smw (cNew D n) c + cNew D n c := by
      rw [smw, cm_wr_id (by omega) (by omega)]
    rw [e]
    refine ⟨?_, by omega, by omega⟩
    unfold pcs
    rw [List.length_append]
    by_cases hq : D 19 (n * 8 + c) = -1
    · have : cNew D n c = 1 := by unfold cNew; rw [if_pos hq]
      rw [if_pos (show stt D 15 4 (n * 8 + c) = -1 from hq), this]
      simp only [List.length_cons, List.length_nil]
      omega
    · have : cNew D n c = 0 := by unfold cNew; rw [if_neg hq]
      rw [if_neg (show ¬ stt D 15 4 (n * 8 + c) = -1 from hq), this]
      simp only [List.length_nil]
      omega
theorem pfl_n {n : Int} (l0 : 0 ≤ D 17 n) (l1 : D 17 n ≤ 8) : ((pfl (stt D 15) n).length : Int) = cNs D n + 1 ∧ 0 ≤ cNs D n ∧ cNs D n ≤ 8 := by
  obtain ⟨a, b, c⟩ := pcs_n (D := D) n (D 17 n).toNat (by omega)
  have e : cNs D n = smw (cNew D n) (D 17 n).toNat := rfl
  unfold pfl
  rw [List.length_append, e]
  refine ⟨?_, b, by omega⟩
  rw [← a]
  rfl
theorem pvs_n (hn : nS (stt D 15)) : ∀ k : Nat, ((pvs (stt D 15) (cNm D) k).length : Int) = sm (fun k => if cNm D (k + 1) = -1 then 0 else cCf D (cNm D (k + 1))) k := by
  intro k
  induction k with
  | zero => rfl
  | succ k ih =>
    have ex : pvs (stt D 15) (cNm D) (k + 1) = pvs (stt D 15) (cNm D) k ++ (if cNm D ((k : Int) + 1) ≠ -1 ∧ stt D 15 3 (cNm D ((k : Int) + 1)) ≠ 0 then pfl (stt D 15) (cNm D ((k : Int) + 1)) else []) := rfl
    rw [sm, ex, List.length_append]
    by_cases hq : cNm D ((k : Int) + 1) = -1
    · rw [if_pos hq, if_neg (fun z => z.1 hq)]
      simp only [List.length_nil]
      omega
    · have hb := (nm_B hq).1
      have hl := (hn.2.1 _ hb.1 hb.2).2.1
      rw [if_neg hq]
      by_cases hq2 : D 18 (cNm D ((k : Int) + 1)) = 0
      · have e : cCf D (cNm D ((k : Int) + 1)) = 0 := by unfold cCf; rw [if_pos hq2]
        rw [if_neg (fun z => z.2 hq2), e]
        simp only [List.length_nil]
        omega
      · obtain ⟨c1, c2, c3⟩ := pfl_n (D := D) hl.1 hl.2
        have e : cCf D (cNm D ((k : Int) + 1)) = cNs D (cNm D ((k : Int) + 1)) + 1 := by
          unfold cCf
          rw [if_neg hq2, cm_wr_id (by omega) (by omega)]
        rw [if_pos ⟨hq, hq2⟩, e, ← c1]
        omega
theorem smf_sm {a : Int} {f : Int → Int} (a0 : 0 ≤ a) (a1 : a ≤ 1) : ∀ n : Nat, n ≤ 12 → (∀ i : Int, 0 ≤ i → i < n → 0 ≤ f i ∧ f i ≤ 9) → smf a f n = a + sm f n ∧ 0 ≤ sm f n ∧ sm f n ≤ 9 * n := by
  intro n
  induction n with
  | zero => intro _ _; exact ⟨by show a = a + 0; omega, Int.le_refl _, Int.le_refl _⟩
  | succ n ih =>
    intro hn hf
    obtain ⟨i1, i2, i3⟩ := ih (by omega) (fun i x y => hf i x (by omega))
    have hb := hf n (by omega) (by omega)
    rw [sm]
    refine ⟨?_, by omega, by omega⟩
    rw [smf, i1, cm_wr_id (by omega) (by omega)]
    omega
/-- as many as the class counts -/
theorem pl0_n (hn : nS (stt D 15)) : ((pl0 (stt D 15) (cNm D)).length : Int) = cCon D := by
  have hb : ∀ n : Int, 0 ≤ n → n < 12 → 0 ≤ cCf D n ∧ cCf D n ≤ 9 := fun n a b => by
    have hl := (hn.2.1 n a b).2.1
    obtain ⟨-, c2, c3⟩ := pfl_n (D := D) hl.1 hl.2
    unfold cCf
    split
    · omega
    · rw [cm_wr_id (by omega) (by omega)]
      omega
  have hd : cDir D = 0 ∨ cDir D = 1 := by
    unfold cDir
    split
    · exact Or.inl rfl
    · exact Or.inr rfl
  have e1 := (smf_sm (a := cDir D) (f := cCf D) (by omega) (by omega) 12 (by omega) (fun i a b => hb i a (by omega))).1
  have e2 := pvs_n hn 12
  have e3 : sm (fun k => if cNm D (k + 1) = -1 then 0 else cCf D (cNm D (k + 1))) 12 = sm (cCf D) 12 := by
    refine sm_nm (V := D 16) (fun v hv => nm_B hv) (fun v hv n n0 n1 => ?_) (fun n m a b c d e f => hn.2.2 n m a b c d e f) (fun n n0 n1 hg => ?_)
    · unfold cNm at hv
      rcases fnd_spec (p := fun n => decide (D 16 n = v)) (d := -1) (k := 12) (i := 0) with ⟨j, a, b, c, d, -⟩ | ⟨d, e⟩
      · rw [d] at hv; omega
      · exact of_decide_eq_false (e n n0 (by omega))
    · have hq := hn.2.1 n n0 n1
      have z1 : 0 ≤ D 16 n ∧ D 16 n ≤ 12 := hq.1
      have z2 : D 16 n = 0 → D 18 n = 0 := fun z => (hq.2.2.2 z).2
      have z3 : D 18 n ≠ 0 := fun z => hg (by unfold cCf; rw [if_pos z])
      have z4 : D 16 n ≠ 0 := fun z => z3 (z2 z)
      omega
  unfold cCon pl0
  rw [e1, List.length_append, ← e3, ← e2]
  by_cases h6 : D 15 6 = 0
  · have : cDir D = 0 := by unfold cDir; rw [if_pos h6]
    rw [if_pos (show stt D 15 0 6 = 0 from h6), this]
    simp only [List.length_nil]
    omega
  · have : cDir D = 1 := by unfold cDir; rw [if_neg h6]
    rw [if_neg (show ¬ stt D 15 0 6 = 0 from h6), this]
    simp only [List.length_cons, List.length_nil]
    omega
