/-! THE PLAIN MACHINE: numbers are Int, a heap is plain tables (kinds, references, ints, longs; how many cells are kept, made, how many slots); one step a call of cm_do. -/
abbrev cm_V : Type := Int ⊕ (Int64 ⊕ Nat)
abbrev cm_L : Type := List (Option cm_V)
abbrev cm_H : Type := (Nat → Nat × Nat) × (Nat → Int → Nat) × (Nat → Int → Int) × (Nat → Int → Int64) × Nat × Nat × Nat
abbrev cm_R : Type := Option ((Option cm_V ⊕ Nat) × cm_H)
abbrev cm_K : Type := Nat → Nat → cm_L → List cm_V → cm_H → cm_R
abbrev cm_E : Type := Instr × Nat × Nat × Nat × Nat
/-- an int that wraps -/
def cm_wr (x : Int) : Int := (x + 2147483648) % 4294967296 - 2147483648
def cm_u1 {α : Type} (g : Int → α) (i : Int) (v : α) : Int → α := fun j => if j = i then v else g j
def cm_up {α : Type} (f : Nat → Int → α) (a : Nat) (i : Int) (v : α) : Nat → Int → α := fun b => if b = a then cm_u1 (f a) i v else f b
def cm_ua {α : Type} (f : Nat → α) (a : Nat) (g : α) : Nat → α := fun b => if b = a then g else f b
def cm_cp (f g : Int → Int) (sp dp n : Int) : Int → Int := fun j => if dp ≤ j ∧ j < dp + n then f (sp + (j - dp)) else g j
def cm_sI (h : cm_H) (a : Nat) (i v : Int) : cm_H := (h.1, h.2.1, cm_up h.2.2.1 a i v, h.2.2.2)
def cm_sA (h : cm_H) (a : Nat) (g : Int → Int) : cm_H := (h.1, h.2.1, cm_ua h.2.2.1 a g, h.2.2.2)
def cm_sR (h : cm_H) (a : Nat) (i : Int) (v : Nat) : cm_H := (h.1, cm_up h.2.1 a i v, h.2.2)
def cm_sJ (h : cm_H) (a : Nat) (i : Int) (v : Int64) : cm_H := (h.1, h.2.1, h.2.2.1, cm_up h.2.2.2.1 a i v, h.2.2.2.2)
/-- a cell is made: of a kind, with so many slots -/
def cm_mk (h : cm_H) (kd : Nat × Nat) (n : Nat) : cm_H :=
  (cm_ua h.1 h.2.2.2.2.1 kd, cm_ua h.2.1 h.2.2.2.2.1 (fun _ => 400000), cm_ua h.2.2.1 h.2.2.2.2.1 (fun _ => 0), cm_ua h.2.2.2.1 h.2.2.2.2.1 (fun _ => 0), h.2.2.2.2.1 + 1, h.2.2.2.2.2.1 + 1, h.2.2.2.2.2.2 + n)
/-- an exception is made -/
def cm_ex (h : cm_H) : cm_H := (h.1, h.2.1, h.2.2.1, h.2.2.2.1, h.2.2.2.2.1, h.2.2.2.2.2.1 + 1, h.2.2.2.2.2.2 + 6)
def cm_ck (p : Prop) [Decidable p] (r : cm_R) : cm_R := if p then r else none
/-- behind a call -/
def cm_bd (r : cm_R) (f0 : cm_H → cm_R) (f1 : cm_V → cm_H → cm_R) (fx : Nat → cm_H → cm_R) : cm_R := match r with
  | none => none
  | some (.inl none, h) => f0 h
  | some (.inl (some v), h) => f1 v h
  | some (.inr e, h) => fx e h
def cm_cat (v : cm_V) : Nat := match v with
  | .inr (.inl _) => 2
  | _ => 1
def cm_wd (st : List cm_V) : Nat := (st.map cm_cat).sum
def cm_ild (ls : cm_L) (i : Nat) (k : cm_V → cm_R) : cm_R := match ls[i]? with
  | some (some (.inl x)) => k (.inl x)
  | _ => none
def cm_lld (ls : cm_L) (i : Nat) (k : cm_V → cm_R) : cm_R := match ls[i]? with
  | some (some (.inr (.inl x))) => k (.inr (.inl x))
  | _ => none
def cm_ald (ls : cm_L) (i : Nat) (k : cm_V → cm_R) : cm_R := match ls[i]? with
  | some (some (.inr (.inr x))) => k (.inr (.inr x))
  | _ => none
/-- a long one ahead of place i is gone -/
def cm_kl (ls : cm_L) (i : Nat) : cm_L := match i with
  | 0 => ls
  | j + 1 => match ls[j]? with
    | some (some (.inr (.inl _))) => ls.set j none
    | _ => ls
def cm_ist (ls : cm_L) (i : Nat) (st : List cm_V) (k : cm_L → List cm_V → cm_R) : cm_R := match st with
  | .inl x :: st => if i < ls.length then k ((cm_kl ls i).set i (some (.inl x))) st else none
  | _ => none
def cm_ast (ls : cm_L) (i : Nat) (st : List cm_V) (k : cm_L → List cm_V → cm_R) : cm_R := match st with
  | .inr (.inr x) :: st => if i < ls.length then k ((cm_kl ls i).set i (some (.inr (.inr x)))) st else none
  | _ => none
def cm_lst (ls : cm_L) (i : Nat) (st : List cm_V) (k : cm_L → List cm_V → cm_R) : cm_R := match st with
  | .inr (.inl x) :: st => if i + 1 < ls.length then k (((cm_kl ls i).set i (some (.inr (.inl x)))).set (i + 1) none) st else none
  | _ => none
def cm_inc (ls : cm_L) (i : Nat) (n : Int) (k : cm_L → cm_R) : cm_R := match ls[i]? with
  | some (some (.inl x)) => k (ls.set i (some (.inl (cm_wr (x + n)))))
  | _ => none
def cm_i2 (f : Int → Int → Int) (st : List cm_V) (k : List cm_V → cm_R) : cm_R := match st with
  | .inl b :: .inl a :: st => k (.inl (f a b) :: st)
  | _ => none
def cm_l2 (f : Int64 → Int64 → Int64) (st : List cm_V) (k : List cm_V → cm_R) : cm_R := match st with
  | .inr (.inl b) :: .inr (.inl a) :: st => k (.inr (.inl (f a b)) :: st)
  | _ => none
def cm_and (a b : Int) : Int := (Int32.ofInt a &&& Int32.ofInt b).toInt
def cm_or (a b : Int) : Int := (Int32.ofInt a ||| Int32.ofInt b).toInt
def cm_shl (a b : Int) : Int := (Int32.ofInt a <<< (Int32.ofInt b &&& 31)).toInt
def cm_shr (a b : Int) : Int := (Int32.ofInt a >>> (Int32.ofInt b &&& 31)).toInt
def cm_ushr (a b : Int) : Int := ((Int32.ofInt a).toUInt32 >>> ((Int32.ofInt b).toUInt32 &&& Int32.toUInt32 31)).toInt32.toInt
def cm_dv (st : List cm_V) (k : List cm_V → cm_R) : cm_R := match st with
  | .inl b :: .inl a :: st => cm_ck (b ≠ 0) (k (.inl (cm_wr (a.tdiv b)) :: st))
  | _ => none
def cm_rm (st : List cm_V) (k : List cm_V → cm_R) : cm_R := match st with
  | .inl b :: .inl a :: st => cm_ck (b ≠ 0) (k (.inl (a.tmod b) :: st))
  | _ => none
def cm_ldv (st : List cm_V) (k : List cm_V → cm_R) : cm_R := match st with
  | .inr (.inl b) :: .inr (.inl a) :: st => cm_ck (b ≠ 0) (k (.inr (.inl (a / b)) :: st))
  | _ => none
def cm_lc (a b : Int64) : Int := if a = b then 0 else if a < b then -1 else 1
def cm_lcm (st : List cm_V) (k : List cm_V → cm_R) : cm_R := match st with
  | .inr (.inl b) :: .inr (.inl a) :: st => k (.inl (cm_lc a b) :: st)
  | _ => none
def cm_i2l (st : List cm_V) (k : List cm_V → cm_R) : cm_R := match st with
  | .inl a :: st => k (.inr (.inl (Int64.ofInt a)) :: st)
  | _ => none
def cm_dup (st : List cm_V) (k : List cm_V → cm_R) : cm_R := match st with
  | .inl a :: st => k (.inl a :: .inl a :: st)
  | .inr (.inr a) :: st => k (.inr (.inr a) :: .inr (.inr a) :: st)
  | _ => none
def cm_pop (st : List cm_V) (k : List cm_V → cm_R) : cm_R := match st with
  | .inl _ :: st => k st
  | .inr (.inr _) :: st => k st
  | _ => none
/-- an int over a reference, twice -/
def cm_dp2 (st : List cm_V) (k : List cm_V → cm_R) : cm_R := match st with
  | .inl b :: .inr (.inr a) :: st => k (.inl b :: .inr (.inr a) :: .inl b :: .inr (.inr a) :: st)
  | _ => none
def cm_br (c : ClassFile.Cond) (a b : Int) (t e : cm_R) : cm_R := match c with
  | .eq => if a = b then t else e
  | .ne => if a = b then e else t
  | .lt => if a < b then t else e
  | .ge => if a < b then e else t
  | .gt => if b < a then t else e
  | .le => if b < a then e else t
def cm_if1 (c : ClassFile.Cond) (st : List cm_V) (t e : List cm_V → cm_R) : cm_R := match st with
  | .inl a :: st => cm_br c a 0 (t st) (e st)
  | _ => none
def cm_if2 (c : ClassFile.Cond) (st : List cm_V) (t e : List cm_V → cm_R) : cm_R := match st with
  | .inl b :: .inl a :: st => cm_br c a b (t st) (e st)
  | _ => none
def cm_tgt (pc : Nat) (off : Int) : Nat := ((pc : Int) + off).toNat
def cm_tsw (offs : List Int) (x at_ : Int) (d : cm_R) (j : Int → cm_R) : cm_R := match offs with
  | [] => d
  | o :: os => if x = at_ then j o else cm_tsw os x (at_ + 1) d j
def cm_lsw (ps : List (Int × Int)) (x : Int) (d : cm_R) (j : Int → cm_R) : cm_R := match ps with
  | [] => d
  | o :: os => if x = o.1 then j o.2 else cm_lsw os x d j
def cm_kd (h : cm_H) (a t n : Nat) : Bool := (h.1 a).1 == t && (h.1 a).2 == n
def cm_gf (h : cm_H) (t ci f : Nat) (st : List cm_V) (k : List cm_V → cm_R) : cm_R := match st with
  | .inr (.inr a) :: st => match cm_kd h a 0 ci with
    | true => match t with
      | 2 => match (h.2.1 a (f : Int)).blt 300000 with
        | true => k (.inr (.inr (h.2.1 a (f : Int))) :: st)
        | false => none
      | _ => k (.inl (h.2.2.1 a (f : Int)) :: st)
    | false => none
  | _ => none
def cm_pf (h : cm_H) (t ci f : Nat) (st : List cm_V) (k : List cm_V → cm_H → cm_R) : cm_R := match st with
  | .inl v :: .inr (.inr a) :: st => match cm_kd h a 0 ci with
    | true => match t with
      | 0 => k st (cm_sI h a (f : Int) v)
      | 1 => cm_ck (v = 0 ∨ v = 1) (k st (cm_sI h a (f : Int) v))
      | _ => none
    | false => none
  | .inr (.inr v) :: .inr (.inr a) :: st => match cm_kd h a 0 ci with
    | true => match t with
      | 2 => match v.blt h.2.2.2.2.1 with
        | true => k st (cm_sR h a (f : Int) v)
        | false => none
      | _ => none
    | false => none
  | _ => none
/-- of a row: its kind's number is t -/
def cm_al (h : cm_H) (t : Nat) (st : List cm_V) (k : List cm_V → cm_R) : cm_R := match st with
  | .inl i :: .inr (.inr a) :: st => match (h.1 a).1 == t with
    | true => cm_ck (0 ≤ i ∧ i < ((h.1 a).2 : Int)) (k (.inl (h.2.2.1 a i) :: st))
    | false => none
  | _ => none
def cm_as (h : cm_H) (t : Nat) (st : List cm_V) (k : List cm_V → cm_H → cm_R) : cm_R := match st with
  | .inl v :: .inl i :: .inr (.inr a) :: st => match (h.1 a).1 == t && a.blt h.2.2.2.2.1 with
    | true => cm_ck (0 ≤ i ∧ i < ((h.1 a).2 : Int)) (k st (cm_sI h a i (match t with
      | 2 => v % 2
      | _ => v)))
    | false => none
  | _ => none
def cm_jl (h : cm_H) (st : List cm_V) (k : List cm_V → cm_R) : cm_R := match st with
  | .inl i :: .inr (.inr a) :: st => match (h.1 a).1 == 3 with
    | true => cm_ck (0 ≤ i ∧ i < ((h.1 a).2 : Int)) (k (.inr (.inl (h.2.2.2.1 a i)) :: st))
    | false => none
  | _ => none
def cm_js (h : cm_H) (st : List cm_V) (k : List cm_V → cm_H → cm_R) : cm_R := match st with
  | .inr (.inl v) :: .inl i :: .inr (.inr a) :: st => match (h.1 a).1 == 3 with
    | true => cm_ck (0 ≤ i ∧ i < ((h.1 a).2 : Int)) (k st (cm_sJ h a i v))
    | false => none
  | _ => none
def cm_rl (h : cm_H) (st : List cm_V) (k : List cm_V → cm_R) : cm_R := match st with
  | .inl i :: .inr (.inr a) :: st => match (h.1 a).1 == 4 with
    | true => cm_ck (0 ≤ i ∧ i < ((h.1 a).2 : Int)) (cm_ck (h.2.1 a i < 300000) (k (.inr (.inr (h.2.1 a i)) :: st)))
    | false => none
  | _ => none
def cm_rs (h : cm_H) (st : List cm_V) (k : List cm_V → cm_H → cm_R) : cm_R := match st with
  | .inr (.inr v) :: .inl i :: .inr (.inr a) :: st => match (h.1 a).1 == 4 && cm_kd h v 0 6 with
    | true => cm_ck (0 ≤ i ∧ i < ((h.1 a).2 : Int)) (k st (cm_sR h a i v))
    | false => none
  | _ => none
def cm_ln (h : cm_H) (st : List cm_V) (k : List cm_V → cm_R) : cm_R := match st with
  | .inr (.inr a) :: st => match (h.1 a).1 == 1 with
    | true => k (.inl ((h.1 a).2 : Int) :: st)
    | false => none
  | _ => none
/-- a row of n places is made; a kind's number t -/
def cm_na (h : cm_H) (t : Nat) (st : List cm_V) (k : List cm_V → cm_H → cm_R) : cm_R := match st with
  | .inl n :: st => match h.2.2.2.2.1 == h.2.2.2.2.2.1 && h.2.2.2.2.1.blt 99999 with
    | true => cm_ck (0 ≤ n ∧ n ≤ 100000) (k (.inr (.inr h.2.2.2.2.1) :: st) (cm_mk h (t, n.toNat) n.toNat))
    | false => none
  | _ => none
def cm_nw (h : cm_H) (ci n : Nat) (st : List cm_V) (k : List cm_V → cm_H → cm_R) : cm_R := match h.2.2.2.2.1 == h.2.2.2.2.2.1 && h.2.2.2.2.1.blt 99999 with
  | true => k (.inr (.inr h.2.2.2.2.1) :: st) (cm_mk h (0, ci) n)
  | false => none
def cm_at_ (t : ArrayType) : Nat := match t with
  | .int => 1
  | .boolean => 2
  | .long => 3
  | _ => 9
def cm_cpy (h : cm_H) (st : List cm_V) (k : List cm_V → cm_H → cm_R) : cm_R := match st with
  | .inl n :: .inl dp :: .inr (.inr a) :: .inl sp :: .inr (.inr b) :: st => match (h.1 a).1 == 1 && ((h.1 b).1 == 1 && (a.blt h.2.2.2.2.1 && b.blt h.2.2.2.2.1)) with
    | true => cm_ck ((0 ≤ n ∧ 0 ≤ dp ∧ 0 ≤ sp) ∧ sp + n ≤ ((h.1 b).2 : Int) ∧ dp + n ≤ ((h.1 a).2 : Int)) (k st (cm_sA h a (cm_cp (h.2.2.1 b) (h.2.2.1 a) sp dp n)))
    | false => none
  | _ => none
/-- the texts, by their numbers -/
def cm_tx (n : Nat) : List Int := match n with
  | 0 => [100, 105, 115, 99]
  | 1 => [98, 97, 100]
  | 2 => [102, 105, 108, 101]
  | _ => []
def cm_sln (st : List cm_V) (k : List cm_V → cm_R) : cm_R := match st with
  | .inr (.inr a) :: st => match (200000).ble a && a.blt 200003 with
    | true => k (.inl ((cm_tx (a - 200000)).length : Int) :: st)
    | false => none
  | _ => none
def cm_sch (st : List cm_V) (k : List cm_V → cm_R) : cm_R := match st with
  | .inl i :: .inr (.inr a) :: st => match (200000).ble a && a.blt 200003 with
    | true => cm_ck (0 ≤ i ∧ i < ((cm_tx (a - 200000)).length : Int)) (k (.inl ((cm_tx (a - 200000)).getD i.toNat 0) :: st))
    | false => none
  | _ => none
def cm_mn (a b : Int) : Int := if b < a then b else a
def cm_mx (a b : Int) : Int := if a < b then b else a
def cm_ab (st : List cm_V) (k : List cm_V → cm_R) : cm_R := match st with
  | .inl a :: st => k (.inl (if 0 ≤ a then a else cm_wr (0 - a)) :: st)
  | _ => none
def cm_oi (st : List cm_V) (k : List cm_V → cm_R) : cm_R := match st with
  | .inr (.inr _) :: st => k st
  | _ => none
def cm_en (as_ : List cm_V) (n : Nat) : cm_L := as_.map some ++ List.replicate (n - as_.length) none
/-- a handler of a method, for a throw at pc -/
def cm_hn (hs : List (Nat × Nat × Nat × Nat)) (pc e : Nat) : Option Nat := match hs with
  | [] => none
  | (a, b, t, x) :: hs => if a ≤ pc ∧ pc < b ∧ x = e then some t else cm_hn hs pc e
/-- the places from n on are forgotten -/
def cm_fg (a : Nat) (ls : cm_L) : cm_L := match a with
  | 0 => ls
  | n + 1 => ls.take n ++ List.replicate (ls.length - n) none
/-- the receiver, below the other values of a call, is an object of the class ci -/
def cm_rc (h : cm_H) (ci : Nat) (st : List cm_V) : Bool := match st with
  | .inr (.inr a) :: _ => cm_kd h a 0 ci
  | _ => false
