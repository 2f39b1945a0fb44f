/-! THE HEAP OF THE CLAIM, behind the constructors -/
abbrev cm_X : Type := (Nat → Int → Int64) × Nat × Nat × Nat
/-- the cells of a State from its first on -/
def cm_sK (j : Nat) : Nat × Nat := match j with
  | 0 => (0, 6)
  | 1 => (1, 12)
  | 2 => (1, 12)
  | 3 => (2, 12)
  | 4 => (1, 96)
  | 5 => (1, 96)
  | _ => (1, 13)
def cm_kA : List (Nat × Nat) := [(0, 8), (1, 700), (0, 5), (0, 7), (1, 0), (2, 400), (1, 12), (1, 12), (1, 96), (0, 2), (1, 401), (1, 400), (1, 400), (1, 6000), (1, 400), (0, 6), (1, 12), (1, 12), (2, 12), (1, 96), (1, 96), (1, 13), (0, 1), (1, 126), (1, 126), (1, 126), (0, 0), (4, 40)]
def cm_kB : List (Nat × Nat) := [(0, 4), (0, 2), (1, 401), (1, 400), (1, 400), (1, 6000), (1, 400), (0, 6), (1, 12), (1, 12), (2, 12), (1, 96), (1, 96), (1, 13), (0, 0), (4, 40)]
def cm_kC : List (Nat × Nat) := [(0, 6), (1, 12), (1, 12), (2, 12), (1, 96), (1, 96), (1, 13), (0, 3), (1, 400), (0, 9), (1, 10), (1, 24), (1, 2), (1, 246), (1, 246), (1, 400), (1, 6000), (1, 700), (1, 130), (1, 130), (1, 130), (2, 400), (1, 9840), (1, 246), (1, 246), (1, 9840), (1, 400), (1, 6000), (1, 2), (3, 1)]
def cm_K0 (L a : Nat) : Nat × Nat := if a < 28 then cm_kA.getD a (9, 0) else if a < 308 then cm_sK ((a - 28) % 7) else if a < 324 then cm_kB.getD (a - 308) (9, 0) else if a < 604 then cm_sK ((a - 324) % 7) else if a < 634 then cm_kC.getD (a - 604) (9, 0) else if a = 100000 then (1, L) else (9, 0)
def cm_rA : List (List Nat) := [[1, 400000, 2, 400000, 9, 15, 22, 26, 400000, 400000, 308, 604, 611, 612], [], [3, 400000, 400000, 400000, 400000, 400000, 400000, 400000, 5, 400000, 6, 7, 8], [1], [], [], [], [], [], [400000, 400000, 400000, 400000, 400000, 10, 11, 12, 13, 14], [], [], [], [], [], [16, 17, 18, 19, 20, 21], [], [], [], [], [], [], [23, 24, 25], [], [], [], [27], []]
def cm_rB : List (List Nat) := [[400000, 309, 315, 322], [400000, 400000, 400000, 400000, 400000, 310, 311, 312, 313, 314], [], [], [], [], [], [316, 317, 318, 319, 320, 321], [], [], [], [], [], [], [323], []]
def cm_rC : List (List Nat) := [[605, 606, 607, 608, 609, 610], [], [], [], [], [], [], [], [], [400000, 614, 615, 616, 617, 618, 619, 620, 621, 400000, 400000, 400000, 400000, 400000, 400000, 400000, 400000, 400000, 400000, 400000, 400000, 400000, 622, 623, 624, 400000, 400000, 400000, 625, 400000, 626, 400000, 627, 400000, 400000, 628, 629, 630, 631, 632], [], [], [], [], [], [], [], [], [], [], [], [], [], [], [], [], [], [], [], []]
def cm_rF (l : List Nat) (f : Int) : Nat := if 0 ≤ f then l.getD f.toNat 400000 else 400000
def cm_rS (a : Nat) (f : Int) : Nat := if 0 ≤ f ∧ f < 6 then a + 1 + f.toNat else 400000
def cm_rQ (a : Nat) (f : Int) : Nat := if 0 ≤ f ∧ f < 40 then a + 7 * f.toNat else 400000
def cm_R0 (a : Nat) : Int → Nat := if a < 28 then (if a = 27 then cm_rQ 28 else cm_rF (cm_rA.getD a [])) else if a < 308 then (if (a - 28) % 7 = 0 then cm_rS a else cm_rF []) else if a < 324 then (if a = 323 then cm_rQ 324 else cm_rF (cm_rB.getD (a - 308) [])) else if a < 604 then (if (a - 324) % 7 = 0 then cm_rS a else cm_rF []) else cm_rF (cm_rC.getD (a - 604) [])
def cm_hp (D : Nat → Int → Int) (X : cm_X) : cm_H := (cm_K0 X.2.2.2, cm_R0, D, X.1, 634, X.2.1, X.2.2.1)
def cm_xx (X : cm_X) : cm_X := (X.1, X.2.1 + 1, X.2.2.1 + 6, X.2.2.2)
/-- a method behind a call of its own: at pc, the call was at pc0 -/
noncomputable def cm_aft (y pc0 pc : Nat) (ls : cm_L) (st : List cm_V) (r : cm_R) : cm_R := cm_bd r (fun h => cm_x y pc ls st h) (fun v h => cm_x y pc ls (v :: st) h) (fun e h => match cm_hn (cm_hs y) pc0 e with
      | none => some (.inr e, h)
      | some t => cm_x y t ls [.inr (.inr 300000)] h)
