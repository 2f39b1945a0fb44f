def cm_fd (l : List (Nat × cm_E)) (pc : Nat) : Option cm_E := match l with
  | [] => none
  | (p, e) :: l => if p = pc then some e else cm_fd l pc
/-- a call of an own method b with c values -/
def cm_own (k : cm_K) (y pc l b c : Nat) (ls : cm_L) (st : List cm_V) (h : cm_H) : cm_R := match c.ble st.length && ((cm_wd (st.drop c)).ble 8 && (cm_wd (st.take c)).ble c) with
  | true => cm_bd (k b 0 (cm_en (st.take c).reverse (cm_mL b)) [] h) (fun h => k y (pc + l) ls (st.drop c) h) (fun v h => k y (pc + l) ls (v :: st.drop c) h) (fun e h => match cm_hn (cm_hs y) pc e with
      | none => some (.inr e, h)
      | some t => k y t ls [.inr (.inr 300000)] h)
  | false => none
/-- one of the library's that are steps here -/
def cm_lib (k : cm_K) (y pc n : Nat) (ls : cm_L) (st : List cm_V) (h : cm_H) : cm_R := match (cm_wd st).ble 16 with
  | true => match n with
    | 1 => cm_oi st (fun st => k y pc ls st h)
    | 2 => cm_i2 cm_mn st (fun st => k y pc ls st h)
    | 3 => cm_i2 cm_mx st (fun st => k y pc ls st h)
    | 4 => cm_ab st (fun st => k y pc ls st h)
    | 5 => cm_cpy h st (fun st h => k y pc ls st h)
    | 6 => match (cm_wd st).ble 9 with
      | true => cm_sln st (fun st => k y pc ls st h)
      | false => none
    | 7 => match (cm_wd st).ble 9 with
      | true => cm_sch st (fun st => k y pc ls st h)
      | false => none
    | _ => none
  | false => none
/-- a call: a is 0: static, own; below 100: the library's; else an own one of the class a less 100 -/
def cm_cl (k : cm_K) (y pc l a b c : Nat) (ls : cm_L) (st : List cm_V) (h : cm_H) : cm_R := match a == 0 with
  | true => cm_own k y pc l b c ls st h
  | false => match a.blt 100 with
    | true => cm_lib k y (pc + l) a ls st h
    | false => match cm_rc h (a - 100) (st.drop (c - 1)) with
      | true => cm_own k y pc l b c ls st h
      | false => none
def cm_kn (k : cm_K) (y pc a b : Nat) (ls : cm_L) (st : List cm_V) (h : cm_H) : cm_R := match a with
  | 0 => k y pc ls (.inl (b : Int) :: st) h
  | 1 => k y pc ls (.inr (.inr b) :: st) h
  | _ => none
def cm_do (k : cm_K) (y pc : Nat) (en : cm_E) (ls : cm_L) (st : List cm_V) (h : cm_H) : cm_R := match en with
  | (.iconst n, l, _) => k y (pc + l) ls (.inl n :: st) h
  | (.bipush n, l, _) => k y (pc + l) ls (.inl n :: st) h
  | (.sipush n, l, _) => k y (pc + l) ls (.inl n :: st) h
  | (.lconst n, l, _) => k y (pc + l) ls (.inr (.inl (Int64.ofNat n.val)) :: st) h
  | (.ldc _, l, a, b, _) => cm_kn k y (pc + l) a b ls st h
  | (.ldc_w _, l, a, b, _) => cm_kn k y (pc + l) a b ls st h
  | (.ldc2_w _, l, _) => k y (pc + l) ls (.inr (.inl (-1)) :: st) h
  | (.iload i, l, _) => cm_ild ls i (fun v => k y (pc + l) ls (v :: st) h)
  | (.iload_n i, l, _) => cm_ild ls i.val (fun v => k y (pc + l) ls (v :: st) h)
  | (.lload i, l, _) => cm_lld ls i (fun v => k y (pc + l) ls (v :: st) h)
  | (.lload_n i, l, _) => cm_lld ls i.val (fun v => k y (pc + l) ls (v :: st) h)
  | (.aload i, l, _) => cm_ald ls i (fun v => k y (pc + l) ls (v :: st) h)
  | (.aload_n i, l, _) => cm_ald ls i.val (fun v => k y (pc + l) ls (v :: st) h)
  | (.istore i, l, _) => cm_ist ls i st (fun ls st => k y (pc + l) ls st h)
  | (.istore_n i, l, _) => cm_ist ls i.val st (fun ls st => k y (pc + l) ls st h)
  | (.lstore i, l, _) => cm_lst ls i st (fun ls st => k y (pc + l) ls st h)
  | (.lstore_n i, l, _) => cm_lst ls i.val st (fun ls st => k y (pc + l) ls st h)
  | (.astore i, l, _) => cm_ast ls i st (fun ls st => k y (pc + l) ls st h)
  | (.astore_n i, l, _) => cm_ast ls i.val st (fun ls st => k y (pc + l) ls st h)
  | (.iinc i n, l, _) => cm_inc ls i n (fun ls => k y (pc + l) ls st h)
  | (.iadd, l, _) => cm_i2 (fun a b => cm_wr (a + b)) st (fun st => k y (pc + l) ls st h)
  | (.isub, l, _) => cm_i2 (fun a b => cm_wr (a - b)) st (fun st => k y (pc + l) ls st h)
  | (.imul, l, _) => cm_i2 (fun a b => cm_wr (a * b)) st (fun st => k y (pc + l) ls st h)
  | (.iand, l, _) => cm_i2 cm_and st (fun st => k y (pc + l) ls st h)
  | (.ior, l, _) => cm_i2 cm_or st (fun st => k y (pc + l) ls st h)
  | (.ishl, l, _) => cm_i2 cm_shl st (fun st => k y (pc + l) ls st h)
  | (.ishr, l, _) => cm_i2 cm_shr st (fun st => k y (pc + l) ls st h)
  | (.iushr, l, _) => cm_i2 cm_ushr st (fun st => k y (pc + l) ls st h)
  | (.idiv, l, _) => cm_dv st (fun st => k y (pc + l) ls st h)
  | (.irem, l, _) => cm_rm st (fun st => k y (pc + l) ls st h)
  | (.ladd, l, _) => cm_l2 (fun a b => a + b) st (fun st => k y (pc + l) ls st h)
  | (.lmul, l, _) => cm_l2 (fun a b => a * b) st (fun st => k y (pc + l) ls st h)
  | (.ldiv, l, _) => cm_ldv st (fun st => k y (pc + l) ls st h)
  | (.lcmp, l, _) => cm_lcm st (fun st => k y (pc + l) ls st h)
  | (.i2l, l, _) => cm_i2l st (fun st => k y (pc + l) ls st h)
  | (.dup, l, _) => cm_dup st (fun st => k y (pc + l) ls st h)
  | (.dup2, l, _) => cm_dp2 st (fun st => k y (pc + l) ls st h)
  | (.pop, l, _) => cm_pop st (fun st => k y (pc + l) ls st h)
  | (.goto o, _, a, _) => k y (cm_tgt pc o) (cm_fg a ls) st h
  | (.ifCond c o, l, _) => cm_if1 c st (fun st => k y (cm_tgt pc o) ls st h) (fun st => k y (pc + l) ls st h)
  | (.if_icmp c o, l, _) => cm_if2 c st (fun st => k y (cm_tgt pc o) ls st h) (fun st => k y (pc + l) ls st h)
  | (.tableswitch d lo _ os, _) => (match st with
    | .inl x :: st => cm_tsw os.toList x lo (k y (cm_tgt pc d) ls st h) (fun o => k y (cm_tgt pc o) ls st h)
    | _ => none)
  | (.lookupswitch d ps, _) => (match st with
    | .inl x :: st => cm_lsw ps.toList x (k y (cm_tgt pc d) ls st h) (fun o => k y (cm_tgt pc o) ls st h)
    | _ => none)
  | (.getfield _, l, a, b, c) => cm_gf h a b c st (fun st => k y (pc + l) ls st h)
  | (.putfield _, l, a, b, c) => cm_pf h a b c st (fun st h => k y (pc + l) ls st h)
  | (.iaload, l, _) => cm_al h 1 st (fun st => k y (pc + l) ls st h)
  | (.iastore, l, _) => cm_as h 1 st (fun st h => k y (pc + l) ls st h)
  | (.baload, l, _) => cm_al h 2 st (fun st => k y (pc + l) ls st h)
  | (.bastore, l, _) => cm_as h 2 st (fun st h => k y (pc + l) ls st h)
  | (.laload, l, _) => cm_jl h st (fun st => k y (pc + l) ls st h)
  | (.lastore, l, _) => cm_js h st (fun st h => k y (pc + l) ls st h)
  | (.aaload, l, _) => cm_rl h st (fun st => k y (pc + l) ls st h)
  | (.aastore, l, _) => cm_rs h st (fun st h => k y (pc + l) ls st h)
  | (.arraylength, l, _) => cm_ln h st (fun st => k y (pc + l) ls st h)
  | (.newarray t, l, _) => cm_na h (cm_at_ t) st (fun st h => k y (pc + l) ls st h)
  | (.anewarray _, l, _) => cm_na h 4 st (fun st h => k y (pc + l) ls st h)
  | (.new _, l, a, b, c) => (match a with
    | 0 => cm_nw h b c st (fun st h => k y (pc + l) ls st h)
    | _ => (match st with
      | [] => some (.inr b, cm_ex h)
      | _ => none))
  | (.invokevirtual _, l, a, b, c) => cm_cl k y pc l a b c ls st h
  | (.invokestatic _, l, a, b, c) => cm_cl k y pc l a b c ls st h
  | (.invokespecial _, l, a, b, c) => cm_cl k y pc l a b c ls st h
  | (.ireturn, _, a, _) => (match st with
    | [.inl x] => (match a with
      | 0 => some (.inl (some (.inl x)), h)
      | _ => cm_ck (x = 0 ∨ x = 1) (some (.inl (some (.inl x)), h)))
    | _ => none)
  | (.lreturn, _) => (match st with
    | [.inr (.inl x)] => some (.inl (some (.inr (.inl x))), h)
    | _ => none)
  | (.return_, _) => (match st with
    | [] => some (.inl none, h)
    | _ => none)
  | _ => none
def cm_st (k : cm_K) (y pc : Nat) (ls : cm_L) (st : List cm_V) (h : cm_H) : cm_R := match cm_fd (cm_cd y) pc with
  | some en => cm_do k y pc en ls st h
  | none => none
def cm_run (n : Nat) : cm_K := match n with
  | 0 => fun _ _ _ _ _ => none
  | n + 1 => fun y pc ls st h => cm_st (cm_run n) y pc ls st h
