/-- what an instruction's row must be, for the two machines to go alike -/
def cm_jls : List (Nat × Nat × Nat) := [(8, 399, 1296), (9, 394, 1883)]
theorem cm_jls_ok : cm_jls.all (fun q => decide (lw_tbl[q.2.2]? = some (.constantLong (cm_cn q.1) q.2.1 (-1)))) = true := by decide +kernel
def cm_fnd {α : Type} (l : List α) (p : α → Bool) : Bool := l.any p
def cm_tg (pc : Nat) (o : Int) : Bool := decide (0 ≤ (pc : Int) + o)
def cm_okcl (y idx a b c v : Nat) : Bool := match a == 0 || (100).ble a with
  | true => cm_mls.any (fun q => q.1 == cm_ow y && (q.2.1 == idx && q.2.2.2.1 == b)) && (c == cm_na_ b && ((cm_fm b + 1).ble (cm_fm y) && ((19 + cm_mL b + cm_lo b).ble (cm_lo y) && (match v with
    | 0 => cm_sc b && a == 0
    | 1 => !cm_sc b && (a == 100 + cm_ow b && decide ((cm_nm b).name ≠ "<init>"))
    | _ => !cm_sc b && (a == 100 + cm_ow b && decide ((cm_nm b).name = "<init>"))))))
  | false => a == 99 || (cm_pls.any (fun q => q.1 == cm_ow y && (q.2.1 == idx && q.2.2.1 == a)) && (match v with
    | 0 => (2).ble a && a.ble 5
    | 1 => (6).ble a && (a.ble 7 && (6).ble (cm_fm y))
    | _ => a == 1))
def cm_okpf (y b c : Nat) : Bool := match cm_vw[b]? with
  | some (_, T, _) => !(T c).2.2.2 || (decide ((cm_nm y).name = "<init>") && decide ((T c).1 = cm_cn (cm_ow y)))
  | none => false
def cm_okk2 (y i a b : Nat) : Bool := match a with
  | 0 => cm_kls.any (fun q => q.1 == cm_ow y && (q.2.1 == i && q.2.2.1 == b))
  | 1 => (List.range 6).any (fun k => decide ((cm_lits[k]?).map (fun q => (q.1, q.2.1)) = some (cm_cn (cm_ow y), i)) && b == 200000 + k % 3)
  | _ => true
def cm_oki (y pc : Nat) (en : cm_E) : Bool := match en with
  | (.iconst n, l, _) => l == 1 && decide (-1 ≤ n ∧ n ≤ 5)
  | (.bipush n, l, _) => l == 2 && decide (-128 ≤ n ∧ n ≤ 127)
  | (.sipush n, l, _) => l == 3 && decide (-32768 ≤ n ∧ n ≤ 32767)
  | (.lconst _, l, _) => l == 1
  | (.ldc i, l, a, b, _) => l == 2 && cm_okk2 y i a b
  | (.ldc_w i, l, a, b, _) => l == 3 && cm_okk2 y i a b
  | (.ldc2_w i, l, _) => l == 3 && cm_jls.any (fun q => q.1 == cm_ow y && q.2.1 == i)
  | (.iload _, l, _) => l == 2
  | (.iload_n _, l, _) => l == 1
  | (.lload _, l, _) => l == 2
  | (.lload_n _, l, _) => l == 1
  | (.aload _, l, _) => l == 2
  | (.aload_n _, l, _) => l == 1
  | (.istore _, l, _) => l == 2
  | (.istore_n _, l, _) => l == 1
  | (.lstore _, l, _) => l == 2
  | (.lstore_n _, l, _) => l == 1
  | (.astore _, l, _) => l == 2
  | (.astore_n _, l, _) => l == 1
  | (.iinc _ n, l, _) => l == 3 && decide (-32768 ≤ n ∧ n ≤ 32767)
  | (.goto o, l, _) => l == 3 && cm_tg pc o
  | (.ifCond _ o, l, _) => l == 3 && cm_tg pc o
  | (.if_icmp _ o, l, _) => l == 3 && cm_tg pc o
  | (.tableswitch d lo hi os, _) => cm_tg pc d && (os.toList.all (cm_tg pc) && decide (hi - lo + 1 = (os.toList.length : Int)))
  | (.lookupswitch d ps, _) => cm_tg pc d && (ps.toList.all (fun q => cm_tg pc q.2) && (ps.toList.zip (ps.toList.drop 1)).all (fun (a, next) => a.1 < next.1))
  | (.getfield i, l, a, b, c) => l == 3 && cm_fls.any (fun q => q.1 == cm_ow y && (q.2.1 == i && (q.2.2.2.1 == a && (q.2.2.2.2.1 == b && q.2.2.2.2.2.1 == c))))
  | (.putfield i, l, a, b, c) => l == 3 && (cm_fls.any (fun q => q.1 == cm_ow y && (q.2.1 == i && (q.2.2.1 == 0 && (q.2.2.2.1 == a && (q.2.2.2.2.1 == b && q.2.2.2.2.2.1 == c))))) && cm_okpf y b c)
  | (.newarray t, l, _) => l == 2 && (cm_at_ t).blt 9
  | (.anewarray i, l, _) => l == 3 && cm_cls.any (fun q => q.1 == cm_ow y && (q.2.1 == i && q.2.2.1 == 6))
  | (.new i, l, a, b, c) => l == 3 && (match a with
    | 0 => cm_cls.any (fun q => q.1 == cm_ow y && (q.2.1 == i && (q.2.2.1 == b && q.2.2.2.1 == c)))
    | _ => cm_ths.any (fun q => q.1 == y && (q.2.1 == pc && (q.2.2.2.1 == i && q.2.2.2.2.2.2 == b))))
  | (.invokevirtual i, l, a, b, c) => l == 3 && cm_okcl y i a b c 1
  | (.invokestatic i, l, a, b, c) => l == 3 && cm_okcl y i a b c 0
  | (.invokespecial i, l, a, b, c) => l == 3 && cm_okcl y i a b c 2
  | (.ireturn, l, a, _) => l == 1 && decide (cm_rt y = some (match a with
    | 0 => .int
    | _ => .boolean))
  | (.lreturn, l, _) => l == 1 && decide (cm_rt y = some .long)
  | (.return_, l, _) => l == 1 && decide (cm_rt y = none)
  | (_, l, _) => l == 1
def cm_oke (y pc : Nat) (en : cm_E) : Bool := decide (decode (cm_by y) pc = .ok (en.1, en.2.1)) && cm_oki y pc en
theorem cm_chunks {α : Type} {p : α → Bool} {l : List α} (ls : List (List α)) (h : l = ls.flatten) (ha : ∀ x ∈ ls, x.all p = true) : l.all p = true := by
  rw [h, List.all_eq_true]
  intro a hm
  obtain ⟨x, hx, hax⟩ := List.mem_flatten.mp hm
  exact List.all_eq_true.mp (ha x hx) a hax
