/-! ends: both -/
variable {D E : Nat → Int → Int} {X : cm_X} {K B K' B' A : Int → Int} {h pk c t : Int} {S : Nat → Int → Int} {r : Int → Int}
theorem fw_m2 {rm sp : Int → Prop} {cost P M : Int} (hc : 2 ≤ cost) (hm : ∀ e, rm e → e + cost ≤ M) : ∀ (k : Nat) (e d : Int), M ≤ e + 2 * k → fw rm sp cost P (k + 2) e d = fw rm sp cost P (k + 1) e d := by
  intro k
  induction k with
  | zero =>
    intro e d he
    by_cases h1 : d < P
    · have h2 : ¬ rm e := fun z => by have := hm e z; omega
      rw [fw_b h1 h2, fw_b h1 h2]
    · rw [fw_d h1, fw_d h1]
  | succ k ih =>
    intro e d he
    by_cases h1 : d < P
    · by_cases h2 : rm e
      · by_cases h3 : sp e
        · rw [fw_s h1 h2 h3, fw_s h1 h2 h3]; exact ih _ _ (by omega)
        · rw [fw_g h1 h2 h3, fw_g h1 h2 h3]; exact ih _ _ (by omega)
      · rw [fw_b h1 h2, fw_b h1 h2]
    · rw [fw_d h1, fw_d h1]
/-- above the head the reference's disc may be anything -/
theorem R_up {t' : Int} (hR : R D t) (h : ∀ a, cRow a → a ≠ 619 → a ≠ 620 → E a = D a) (h9 : E 9 0 = D 9 0 ∧ E 9 1 = D 9 1 ∧ E 9 2 = D 9 2 ∧ E 9 3 = D 9 3) (h6 : E 613 9 = D 613 9 ∧ E 613 18 = D 613 18 ∧ E 613 21 = D 613 21 ∧ E 613 29 = D 613 29 ∧ E 613 33 = D 613 33 ∧ E 613 34 = D 613 34) (eb : eqB (D 15 9) (D 619) (D 620) (E 619) (E 620)) (hl : lkOk E t') : R E t' := by
  have h0 : R (cm_ua (cm_ua E 619 (D 619)) 620 (D 620)) t' := by
    refine R_eq (D := D) ⟨fun a ha => ?_, h9, h6⟩ hl hR
    by_cases a1 : a = 620
    · rw [a1, ua_same]
    · rw [ua_row a1]
      by_cases a2 : a = 619
      · rw [a2, ua_same]
      · rw [ua_row a2, h a ha a2 a1]
  have e15 : E 15 = D 15 := h 15 (by unfold cRow; omega) (by omega) (by omega)
  rw [← e15] at eb
  obtain ⟨⟨⟨z1, z2, z3, z4, z5⟩, r2, r3, r4, r5, r6⟩, ⟨a1, a2⟩, i1, t1, -⟩ := h0
  have z2' : rDk (E 11) (E 12) (E 13) (D 619) (D 620) (E 15 9) := z2
  have z3' : vDk (E 9 1) (D 619) (D 620) (E 15 9) := z3
  have hln := rDk_ln z2'
  refine ⟨⟨⟨z1, rDk_eq eb (fun _ _ _ => ⟨rfl, rfl, fun _ _ _ => rfl⟩) z2', vDk_eq eb hln z3', z4, z5⟩, r2, r3, r4, r5, wS_eq eb hln z3' (Int.le_refl _) r6⟩, ⟨?_, a2⟩, ?_, t1, hl⟩
  · refine aG_eq eb hln z3' (fun q q0 q1 => agS_of fun j hj => ?_) (fun _ _ _ => rfl) (Int.le_refl _) a1
    show E (adr q + j) = (cm_ua (cm_ua E 619 (D 619)) 620 (D 620)) (adr q + j)
    rw [ua_row (by unfold adr; omega), ua_row (by unfold adr; omega)]
  · exact iR_hi (D := cm_ua (cm_ua E 619 (D 619)) 620 (D 620)) (fun x hx => by rw [ua_row (by omega), ua_row (by omega)]) rfl rfl i1
def okX (x : CT) : Prop := (x.1 = 3 → (0 ≤ x.2.1 ∧ x.2.1 < 12) ∧ 0 ≤ x.2.2 ∧ x.2.2 < 8) ∧ (x.1 = 4 → 0 ≤ x.2.1 ∧ x.2.1 < 12)
theorem pcs_ok {n : Int} (n0 : 0 ≤ n) (n1 : n < 12) : ∀ c : Nat, c ≤ 8 → ∀ x ∈ pcs S n c, okX x := by
  intro c
  induction c with
  | zero => intro _ x hx; cases hx
  | succ c ih =>
    intro hc x hx
    have e : pcs S n (c + 1) = pcs S n c ++ (if S 4 (n * 8 + c) = -1 then [(3, n, (c : Int))] else []) := rfl
    rw [e, List.mem_append] at hx
    rcases hx with hx | hx
    · exact ih (by omega) x hx
    · by_cases hq : S 4 (n * 8 + c) = -1
      · rw [if_pos hq, List.mem_singleton] at hx
        rw [hx]
        exact ⟨fun _ => ⟨⟨n0, n1⟩, by show 0 ≤ (c : Int); omega, by show (c : Int) < 8; omega⟩, fun z => absurd z (by show ¬ (3 : Int) = 4; omega)⟩
      · rw [if_neg hq] at hx; cases hx
theorem pvs_ok {N : Int → Int} (hn : nS S) (hN : ∀ v, N v ≠ -1 → 0 ≤ N v ∧ N v < 12) : ∀ k : Nat, ∀ x ∈ pvs S N k, okX x := by
  intro k
  induction k with
  | zero => intro x hx; cases hx
  | succ k ih =>
    intro x hx
    have e : pvs S N (k + 1) = pvs S N k ++ (if N ((k : Int) + 1) ≠ -1 ∧ S 3 (N ((k : Int) + 1)) ≠ 0 then pfl S (N ((k : Int) + 1)) else []) := rfl
    rw [e, List.mem_append] at hx
    rcases hx with hx | hx
    · exact ih x hx
    · by_cases hq : N ((k : Int) + 1) ≠ -1 ∧ S 3 (N ((k : Int) + 1)) ≠ 0
      · rw [if_pos hq] at hx
        have hb := hN _ hq.1
        have h8 := (hn.2.1 _ hb.1 hb.2).2.1
        unfold pfl at hx
        rw [List.mem_append] at hx
        rcases hx with hx | hx
        · exact pcs_ok hb.1 hb.2 _ (by omega) x hx
        · rw [List.mem_singleton] at hx
          rw [hx]
          exact ⟨fun z => absurd z (by show ¬ (4 : Int) = 3; omega), fun _ => hb⟩
      · rw [if_neg hq] at hx; cases hx
theorem pl_ok {N : Int → Int} (hn : nS S) (hN : ∀ v, N v ≠ -1 → 0 ≤ N v ∧ N v < 12) : ∀ x ∈ pl S N pk, okX x := by
  intro x hx
  unfold pl pl0 at hx
  rw [List.mem_append, List.mem_append, List.mem_append] at hx
  rcases hx with ((hx | hx) | hx) | hx
  · exact pvs_ok hn hN 12 x hx
  · by_cases hq : S 0 6 = 0
    · rw [if_pos hq] at hx; cases hx
    · rw [if_neg hq, List.mem_singleton] at hx
      rw [hx]
      exact ⟨fun z => absurd z (by show ¬ (5 : Int) = 3; omega), fun z => absurd z (by show ¬ (5 : Int) = 4; omega)⟩
  · have := List.eq_of_mem_replicate hx
    rw [this]
    exact ⟨fun z => absurd z (by show ¬ (2 : Int) = 3; omega), fun z => absurd z (by show ¬ (2 : Int) = 4; omega)⟩
  · rw [List.mem_singleton] at hx
    rw [hx]
    exact ⟨fun z => absurd z (by show ¬ (6 : Int) = 3; omega), fun z => absurd z (by show ¬ (6 : Int) = 4; omega)⟩
/-- the contents that are held may be written -/
theorem hol_ok {N : Int → Int} (hn : nS S) (hr : rS S (E 617)) (hN : ∀ v, N v ≠ -1 → 0 ≤ N v ∧ N v < 12) (hl : (pl S N pk).length ≤ 125) (hm : mHol E (pl S N pk)) {t : Int} (t0 : 0 ≤ t) (t1 : t < ((pl S N pk).length : Int)) : okT E t := by
  have hlt : t.toNat < (pl S N pk).length := by omega
  have hg : (pl S N pk)[t.toNat]? = some ((pl S N pk)[t.toNat]) := List.getElem?_eq_getElem hlt
  obtain ⟨m1, m2⟩ := hm.2 t.toNat _ hg
  have hx := pl_ok (S := S) (N := N) (pk := pk) hn hN _ (List.getElem_mem hlt)
  have et : ((t.toNat : Nat) : Int) = t := by omega
  rw [et] at m1 m2
  generalize (pl S N pk)[t.toNat] = x at m1 m2 hx
  refine ⟨⟨t0, by omega⟩, fun z => ?_, fun z => ?_⟩
  · rw [m1] at z
    have := hx.1 z
    have w : whs x = 8 * x.2.1 + x.2.2 := by unfold whs; rw [if_pos z]
    rw [m2, w]
    omega
  · rw [m1] at z
    have hb := hx.2 z
    have w : whs x = x.2.1 := by unfold whs; rw [if_neg (by omega), if_pos z]
    rw [m2, w, (hr.1 _ hb.1 hb.2).2.1]
    exact ⟨hb, (hn.2.1 _ hb.1 hb.2).2.1⟩
