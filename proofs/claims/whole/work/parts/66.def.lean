/-! two States that hold the same; addresses of the acts -/
/-- two States hold the same -/
def agS (S T : Nat → Int → Int) : Prop := (∀ n : Int, 0 ≤ n → n < 12 → S 1 n = T 1 n ∧ S 2 n = T 2 n ∧ S 3 n = T 3 n) ∧ (∀ k : Int, 0 ≤ k → k < 96 → S 4 k = T 4 k ∧ S 5 k = T 5 k) ∧ (∀ v : Int, 0 ≤ v → v < 13 → S 6 v = T 6 v) ∧ S 0 6 = T 0 6 ∧ S 0 7 = T 0 7 ∧ S 0 8 = T 0 8 ∧ S 0 9 = T 0 9 ∧ S 0 10 = T 0 10
/-- what is copied is a truth where it must be -/
def bS (S : Nat → Int → Int) : Prop := (S 0 6 = 0 ∨ S 0 6 = 1) ∧ ∀ n : Int, 0 ≤ n → n < 12 → S 3 n = 0 ∨ S 3 n = 1
theorem ua_row {D : Nat → Int → Int} {a b : Nat} {g : Int → Int} (h : b ≠ a) : cm_ua D a g b = D b := by
  unfold cm_ua
  rw [if_neg h]
theorem ua_same {D : Nat → Int → Int} {a : Nat} {g : Int → Int} : cm_ua D a g a = g := by
  unfold cm_ua
  rw [if_pos rfl]
def adr (q : Int) : Nat := 28 + 7 * q.toNat
def bdr (q : Int) : Nat := 324 + 7 * q.toNat
