/-! the constructor of the acts ahead: 40 states -/
variable {L k a v s : Nat} {Rf : Nat → Int → Nat} {D : Nat → Int → Int} {st : List cm_V}
theorem rs_s {i : Int} {n : Nat} {F : List cm_V → cm_H → cm_R} (ha : a < k) (hv : v < k) (he : cm_K0 L a = (4, n)) (hw : cm_K0 L v = (0, 6)) (hi : 0 ≤ i ∧ i < n) : cm_rs (cm_cs L k Rf D s) (.inr (.inr v) :: .inl i :: .inr (.inr a) :: st) F = F st (cm_cs L k (cm_up Rf a i v) D s) := by
  show (match ((cm_Kk L k a).1 == 4 && cm_kd (cm_cs L k Rf D s) v 0 6) with
    | true => cm_ck (0 ≤ i ∧ i < ((cm_Kk L k a).2 : Int)) (F st (cm_cs L k (cm_up Rf a i v) D s))
    | false => none) = _
  rw [kd_s hv hw, K_at ha, he]
  dsimp only
  exact ck_t hi
theorem rS_rF : cm_rF [a + 1, a + 1 + 1, a + 1 + 1 + 1, a + 1 + 1 + 1 + 1, a + 1 + 1 + 1 + 1 + 1, a + 1 + 1 + 1 + 1 + 1 + 1] = cm_rS a := by
  funext f
  unfold cm_rF cm_rS
  by_cases h0 : 0 ≤ f
  · obtain ⟨n, rfl⟩ := Int.eq_ofNat_of_zero_le h0
    rw [if_pos h0]
    rcases n with _ | _ | _ | _ | _ | _ | n
    · rfl
    · rfl
    · rfl
    · rfl
    · rfl
    · rfl
    · rw [if_neg (by omega)]
      rfl
  · rw [if_neg h0, if_neg (by omega)]
def cm_rJ (a : Nat) (j : Int) (f : Int) : Nat := if 0 ≤ f ∧ f < j then a + 2 + 7 * f.toNat else 400000
/-- the references of acts at a with j states -/
def cm_RA (a : Nat) (j : Nat) (Rf : Nat → Int → Nat) (b : Nat) : Int → Nat := if a + 2 ≤ b ∧ b < a + 2 + 7 * j then (if (b - (a + 2)) % 7 = 0 then cm_rS b else fun _ => 400000) else if b = a + 1 then cm_rJ a j else if b = a then cm_rF [a + 1] else Rf b
theorem RA_s {j : Nat} (hf : ∀ b, a + 2 + 7 * j ≤ b → b < 634 → Rf b = fun _ => 400000) (hj : a + 2 + 7 * j + 6 < 634) : cm_up (cm_ua (cm_RA a j Rf) (a + 2 + 7 * j) (cm_rS (a + 2 + 7 * j))) (a + 1) (j : Int) (a + 2 + 7 * j) = cm_RA a (j + 1) Rf := by
  funext b
  show (if b = a + 1 then cm_u1 (if a + 1 = a + 2 + 7 * j then _ else cm_RA a j Rf (a + 1)) (j : Int) (a + 2 + 7 * j) else if b = a + 2 + 7 * j then cm_rS (a + 2 + 7 * j) else cm_RA a j Rf b) = _
  rw [if_neg (show ¬ a + 1 = a + 2 + 7 * j by omega)]
  by_cases h1 : b = a + 1
  · rw [if_pos h1, h1]
    unfold cm_RA
    rw [if_neg (by omega), if_pos rfl, if_neg (by omega), if_pos rfl]
    funext f
    show (if f = (j : Int) then _ else cm_rJ a j f) = cm_rJ a (j + 1 : Nat) f
    unfold cm_rJ
    by_cases hf : f = (j : Int)
    · rw [if_pos hf, if_pos (by omega), hf, Int.toNat_natCast]
    · rw [if_neg hf]
      by_cases h2 : 0 ≤ f ∧ f < (j : Int)
      · rw [if_pos h2, if_pos (by omega)]
      · rw [if_neg h2, if_neg (by omega)]
  · rw [if_neg h1]
    by_cases h2 : b = a + 2 + 7 * j
    · rw [if_pos h2, h2]
      unfold cm_RA
      rw [if_pos (by omega), if_pos (by omega)]
    · rw [if_neg h2]
      unfold cm_RA
      by_cases h3 : a + 2 ≤ b ∧ b < a + 2 + 7 * j
      · rw [if_pos h3, if_pos (show a + 2 ≤ b ∧ b < a + 2 + 7 * (j + 1) by omega)]
      · rw [if_neg h3, if_neg h1]
        by_cases h4 : a + 2 ≤ b ∧ b < a + 2 + 7 * (j + 1)
        · rw [if_pos h4, if_neg (by omega), if_neg (by omega)]
          exact hf b (by omega) (by omega)
        · rw [if_neg h4, if_neg h1]
theorem RA_0 (hf : ∀ b, a + 1 ≤ b → b < 634 → Rf b = fun _ => 400000) (ha : a + 1 < 634) : cm_ua Rf a (cm_rF [a + 1]) = cm_RA a 0 Rf := by
  funext b
  show (if b = a then _ else Rf b) = _
  unfold cm_RA
  rw [if_neg (show ¬ (a + 2 ≤ b ∧ b < a + 2 + 7 * 0) by omega)]
  by_cases h1 : b = a + 1
  · rw [if_neg (by omega), if_pos h1, h1, hf _ (Nat.le_refl _) ha]
    funext f
    show 400000 = cm_rJ a (0 : Nat) f
    unfold cm_rJ
    rw [if_neg (by omega)]
  · rw [if_neg h1]
theorem RA_fr {j : Nat} (hf : cm_frs (a + 2) Rf D) : cm_frs (a + 2 + 7 * j) (cm_RA a j Rf) D := fun b h1 h2 => ⟨by
  unfold cm_RA
  rw [if_neg (by omega), if_neg (by omega), if_neg (by omega)]
  exact (hf b (by omega) h2).1, (hf b (by omega) h2).2⟩
theorem X0_15 {j : Int} (h : cm_H) : cm_x 0 15 [some (.inr (.inr a)), some (.inl (j))] [] h = if j < 40 then cm_gf h 2 0 0 [.inr (.inr a)] (fun st => cm_x 0 25 [some (.inr (.inr a)), some (.inl (j))] st h) else cm_x 0 40 [some (.inr (.inr a)), some (.inl (j))] [] h := (cm_un_eq [15, 25, 40] 0 5 15 _ _ _).symm.trans rfl
theorem X0_25 {j : Int} (h : cm_H) : cm_x 0 25 [some (.inr (.inr a)), some (.inl (j))] st h = cm_nw h 6 11 (.inl j :: st) (fun st h => cm_x 0 29 [some (.inr (.inr a)), some (.inl (j))] st h) := (cm_un_eq [29] 0 2 25 _ _ _).symm.trans rfl
theorem X0_29 {j : Int} {x y : Nat} (h : cm_H) : cm_x 0 29 [some (.inr (.inr a)), some (.inl (j))] [.inr (.inr x), .inl j, .inr (.inr y)] h = cm_x 0 30 [some (.inr (.inr a)), some (.inl (j))] [.inr (.inr x), .inr (.inr x), .inl j, .inr (.inr y)] h := (cm_un_eq [30] 0 1 29 _ _ _).symm.trans rfl
theorem X0_30 {ls : cm_L} (h : cm_H) : cm_x 0 30 ls st h = cm_cl cm_x 0 30 3 106 61 1 ls st h := by
  rw [cm_x_eq]
  rfl
theorem X0_33 {j : Int} (h : cm_H) : cm_x 0 33 [some (.inr (.inr a)), some (.inl (j))] st h = cm_rs h st (fun st h => cm_x 0 34 [some (.inr (.inr a)), some (.inl (j))] st h) := (cm_un_eq [34] 0 1 33 _ _ _).symm.trans rfl
theorem X0_34 {j : Int} (h : cm_H) : cm_x 0 34 [some (.inr (.inr a)), some (.inl (j))] [] h = cm_x 0 15 [some (.inr (.inr a)), some (.inl (cm_wr (j + 1)))] [] h := (cm_un_eq [15] 0 2 34 _ _ _).symm.trans rfl
theorem X0_40 {j : Int} (h : cm_H) : cm_x 0 40 [some (.inr (.inr a)), some (.inl (j))] [] h = some (.inl none, h) := (cm_un_eq [] 0 1 40 _ _ _).symm.trans rfl
theorem X0_0 (h : cm_H) : cm_x 0 0 [some (.inr (.inr a)), none] [] h = cm_na h 4 [.inl 40, .inr (.inr a)] (fun st h => cm_x 0 10 [some (.inr (.inr a)), none] st h) := (cm_un_eq [10] 0 5 0 _ _ _).symm.trans rfl
theorem X0_10 (h : cm_H) : cm_x 0 10 [some (.inr (.inr a)), none] st h = cm_pf h 2 0 0 st (fun st h => cm_x 0 13 [some (.inr (.inr a)), none] st h) := (cm_un_eq [13] 0 1 10 _ _ _).symm.trans rfl
theorem X0_13 (h : cm_H) : cm_x 0 13 [some (.inr (.inr a)), none] [] h = cm_x 0 15 [some (.inr (.inr a)), some (.inl (0))] [] h := (cm_un_eq [15] 0 2 13 _ _ _).symm.trans rfl
theorem ac_step {j : Nat} (ha : cm_K0 L a = (0, 0)) (h1 : cm_K0 L (a + 1) = (4, 40)) (hK : ∀ j r, j < 40 → r < 7 → cm_K0 L (a + 2 + 7 * j + r) = cm_sK r) (hf : cm_frs (a + 2) Rf D) (hb : a + 2 + 280 ≤ 634) (hj : j < 40) : cm_x 0 15 [some (.inr (.inr a)), some (.inl ((j : Int)))] [] (cm_cs L (a + 2 + 7 * j) (cm_RA a j Rf) D s) = cm_x 0 15 [some (.inr (.inr a)), some (.inl (((j + 1 : Nat) : Int)))] [] (cm_cs L (a + 2 + 7 * (j + 1)) (cm_RA a (j + 1) Rf) D (s + 11 + 12 + 12 + 12 + 96 + 96 + 13)) := by
  have e0 : cm_RA a j Rf a (0 : Nat) = a + 1 := by
    unfold cm_RA
    rw [if_neg (by omega), if_neg (by omega), if_pos rfl]
    rfl
  have hk0 : cm_K0 L (a + 2 + 7 * j) = (0, 6) := hK j 0 hj (by omega)
  have hf' : cm_frs (a + 2 + 7 * j + 1) (cm_RA a j Rf) D := fr_m (RA_fr hf) (by omega)
  rw [X0_15, if_pos (by omega), gf_s (by omega) ha (by rw [e0]; omega), e0, X0_25, nw_s (RA_fr hf) (by omega) hk0, X0_29, X0_30]
  have hcall : cm_cl cm_x 0 30 3 106 61 1 [some (.inr (.inr a)), some (.inl ((j : Int)))] [.inr (.inr (a + 2 + 7 * j)), .inr (.inr (a + 2 + 7 * j)), .inl (j : Int), .inr (.inr (a + 1))] (cm_cs L (a + 2 + 7 * j + 1) (cm_RA a j Rf) D (s + 11)) = cm_aft 0 30 33 [some (.inr (.inr a)), some (.inl ((j : Int)))] [.inr (.inr (a + 2 + 7 * j)), .inl (j : Int), .inr (.inr (a + 1))] (cm_x 61 0 [some (.inr (.inr (a + 2 + 7 * j)))] [] (cm_cs L (a + 2 + 7 * j + 1) (cm_RA a j Rf) D (s + 11))) := own_s (ci := 6) (a := a + 2 + 7 * j) (by omega) rfl hk0 rfl
  rw [hcall, i_X6 hk0 (hK j 1 hj (by omega)) (hK j 2 hj (by omega)) (hK j 3 hj (by omega)) (hK j 4 hj (by omega)) (hK j 5 hj (by omega)) (hK j 6 hj (by omega)) hf' ((RA_fr hf) _ (Nat.le_refl _) (by omega)).1 (by omega), aft_n, X0_33, rs_s (n := 40) (by omega) (by omega) h1 hk0 (by omega), X0_34, rS_rF, RA_s (fun b b0 b1 => (hf b (by omega) b1).1) (by omega), cm_wr_id (by omega) (by omega)]
  rfl
theorem i_X0 (ha : cm_K0 L a = (0, 0)) (h1 : cm_K0 L (a + 1) = (4, 40)) (hK : ∀ j r, j < 40 → r < 7 → cm_K0 L (a + 2 + 7 * j + r) = cm_sK r) (hf : cm_frs (a + 1) Rf D) (h0 : Rf a = fun _ => 400000) (hb : a + 2 + 280 ≤ 634) : cm_x 0 0 [some (.inr (.inr a)), none] [] (cm_cs L (a + 1) Rf D s) = some (.inl none, cm_cs L (a + 2 + 280) (cm_RA a 40 Rf) D (s + 40 + 10080)) := by
  have hf2 : cm_frs (a + 2) Rf D := fr_m hf (by omega)
  have st : ∀ n : Nat, n ≤ 40 → cm_x 0 15 [some (.inr (.inr a)), some (.inl (0))] [] (cm_cs L (a + 2) (cm_RA a 0 Rf) D (s + 40)) = cm_x 0 15 [some (.inr (.inr a)), some (.inl ((n : Int)))] [] (cm_cs L (a + 2 + 7 * n) (cm_RA a n Rf) D (s + 40 + 252 * n)) := by
    intro n
    induction n with
    | zero => intro _; rfl
    | succ n ih =>
      intro hn
      rw [ih (by omega), ac_step ha h1 hK hf2 hb (by omega)]
      have e : s + 40 + 252 * n + 11 + 12 + 12 + 12 + 96 + 96 + 13 = s + 40 + 252 * (n + 1) := by omega
      rw [e]
  rw [X0_0, na_s (n := 40) (m := 40) hf (by omega) h1 rfl (by omega), X0_10, pf_s (by omega) (by omega) ha, up_fr h0, u1_l (l2 := [a + 1]) (Nat.le_of_ble_eq_true rfl) rfl, X0_13, RA_0 (fun b b0 b1 => (hf b b0 b1).1) (by omega)]
  have e2 := st 40 (by omega)
  have e3 : cm_x 0 15 [some (.inr (.inr a)), some (.inl (((40 : Nat) : Int)))] [] (cm_cs L (a + 2 + 7 * 40) (cm_RA a 40 Rf) D (s + 40 + 252 * 40)) = some (.inl none, cm_cs L (a + 2 + 280) (cm_RA a 40 Rf) D (s + 40 + 10080)) := by
    rw [X0_15, if_neg (by omega), X0_40]
  exact e2.trans e3
