/-! the class's own constructor -/
variable {L k a v s : Nat} {Rf : Nat → Int → Nat} {D : Nat → Int → Int} {st : List cm_V}
theorem up_rw {x : Int} {b : Nat} (h : b ≠ a) : cm_up Rf a x v b = Rf b := if_neg h
theorem ua_rw {g : Int → Nat} {b : Nat} (h : b ≠ a) : cm_ua Rf a g b = Rf b := if_neg h
theorem hK_26 (L : Nat) : ∀ j r, j < 40 → r < 7 → cm_K0 L (26 + 2 + 7 * j + r) = cm_sK r := fun j r h1 h2 => by
  unfold cm_K0
  rw [if_neg (by omega), if_pos (by omega), show (26 + 2 + 7 * j + r - 28) % 7 = r by omega]
theorem hK_322 (L : Nat) : ∀ j r, j < 40 → r < 7 → cm_K0 L (322 + 2 + 7 * j + r) = cm_sK r := fun j r h1 h2 => by
  unfold cm_K0
  rw [if_neg (by omega), if_neg (by omega), if_neg (by omega), if_pos (by omega), show (322 + 2 + 7 * j + r - 324) % 7 = r by omega]
theorem X3_e (h : cm_H) : cm_x 44 0 [some (.inr (.inr a))] [] h = some (.inl none, h) := (cm_un_eq [] 44 3 0 _ _ _).symm.trans rfl
theorem X5_init_k0a (h : cm_H) : cm_x 47 0 [some (.inr (.inr 2))] [] h = cm_nw h 7 7 [.inr (.inr 2)] (fun st h => cm_x 47 8 [some (.inr (.inr 2))] st h) := (cm_un_eq [8] 47 4 0 _ _ _).symm.trans rfl
theorem X5_init_k0b (x : Nat) (h : cm_H) : cm_x 47 8 [some (.inr (.inr 2))] [.inr (.inr x), .inr (.inr 2)] h = cm_x 47 9 [some (.inr (.inr 2))] [.inr (.inr x), .inr (.inr x), .inr (.inr 2)] h := (cm_un_eq [9] 47 1 8 _ _ _).symm.trans rfl
theorem X5_init_k0c {ls : cm_L} (h : cm_H) : cm_x 47 9 ls st h = cm_cl cm_x 47 9 3 107 94 1 ls st h := by
  rw [cm_x_eq]
  rfl
theorem X5_init_k0d (h : cm_H) : cm_x 47 12 [some (.inr (.inr 2))] st h = cm_pf h 2 5 0 st (fun st h => cm_x 47 15 [some (.inr (.inr 2))] st h) := (cm_un_eq [15] 47 1 12 _ _ _).symm.trans rfl
theorem X5_init_k0 (hf : cm_frs 3 Rf D) : cm_x 47 0 [some (.inr (.inr 2))] [] (cm_cs L 3 Rf D s) = cm_x 47 15 [some (.inr (.inr 2))] [] (cm_cs L 5 (cm_up (cm_ua Rf 3 (cm_rF [4])) 2 (0 : Nat) 3) D (s + 7 + 0)) := by
  rw [X5_init_k0a, nw_s hf (by omega) rfl, X5_init_k0b, X5_init_k0c]
  have hcall : cm_cl cm_x 47 9 3 107 94 1 [some (.inr (.inr 2))] [.inr (.inr 3), .inr (.inr 3), .inr (.inr 2)] (cm_cs L 4 Rf D (s + 7)) = cm_aft 47 9 12 [some (.inr (.inr 2))] [.inr (.inr 3), .inr (.inr 2)] (cm_x 94 0 [some (.inr (.inr 3))] [] (cm_cs L 4 Rf D (s + 7))) := own_s (ci := 7) (a := 3) (by omega) rfl rfl rfl
  have hin : cm_x 94 0 [some (.inr (.inr 3))] [] (cm_cs L 4 Rf D (s + 7)) = some (.inl none, cm_cs L 5 (cm_ua Rf 3 (cm_rF [4])) D (s + 7 + 0)) := i_X7 (a := 3) rfl rfl (fr_m hf (by omega)) (hf _ (Nat.le_refl _) (by omega)).1 (by omega)
  refine hcall.trans ?_
  rw [hin, aft_n, X5_init_k0d, pf_s (by omega) (by omega) rfl]
theorem X5_init_k0f (hf : cm_frs 3 Rf D) : cm_frs 5 (cm_up (cm_ua Rf 3 (cm_rF [4])) 2 (0 : Nat) 3) D := fr_u (fr_a (fr_m (hf) (by omega)) (by omega)) (by omega)
theorem X5_init_k1a (h : cm_H) : cm_x 47 15 [some (.inr (.inr 2))] [] h = cm_na h 2 [.inl 400, .inr (.inr 2)] (fun st h => cm_x 47 21 [some (.inr (.inr 2))] st h) := (cm_un_eq [21] 47 3 15 _ _ _).symm.trans rfl
theorem X5_init_k1b (h : cm_H) : cm_x 47 21 [some (.inr (.inr 2))] st h = cm_pf h 2 5 8 st (fun st h => cm_x 47 24 [some (.inr (.inr 2))] st h) := (cm_un_eq [24] 47 1 21 _ _ _).symm.trans rfl
theorem X5_init_k1 (hf : cm_frs 5 Rf D) : cm_x 47 15 [some (.inr (.inr 2))] [] (cm_cs L 5 Rf D s) = cm_x 47 24 [some (.inr (.inr 2))] [] (cm_cs L 6 (cm_up Rf 2 (8 : Nat) 5) D (s + 400)) := by
  rw [X5_init_k1a, na_s (n := 400) (m := 400) hf (by omega) rfl rfl (by omega), X5_init_k1b, pf_s (by omega) (by omega) rfl]
theorem X5_init_k1f (hf : cm_frs 5 Rf D) : cm_frs 6 (cm_up Rf 2 (8 : Nat) 5) D := fr_u (fr_m (hf) (by omega)) (by omega)
theorem X5_init_k2a (h : cm_H) : cm_x 47 24 [some (.inr (.inr 2))] [] h = cm_na h 1 [.inl 12, .inr (.inr 2)] (fun st h => cm_x 47 29 [some (.inr (.inr 2))] st h) := (cm_un_eq [29] 47 3 24 _ _ _).symm.trans rfl
theorem X5_init_k2b (h : cm_H) : cm_x 47 29 [some (.inr (.inr 2))] st h = cm_pf h 2 5 10 st (fun st h => cm_x 47 32 [some (.inr (.inr 2))] st h) := (cm_un_eq [32] 47 1 29 _ _ _).symm.trans rfl
theorem X5_init_k2 (hf : cm_frs 6 Rf D) : cm_x 47 24 [some (.inr (.inr 2))] [] (cm_cs L 6 Rf D s) = cm_x 47 32 [some (.inr (.inr 2))] [] (cm_cs L 7 (cm_up Rf 2 (10 : Nat) 6) D (s + 12)) := by
  rw [X5_init_k2a, na_s (n := 12) (m := 12) hf (by omega) rfl rfl (by omega), X5_init_k2b, pf_s (by omega) (by omega) rfl]
theorem X5_init_k2f (hf : cm_frs 6 Rf D) : cm_frs 7 (cm_up Rf 2 (10 : Nat) 6) D := fr_u (fr_m (hf) (by omega)) (by omega)
theorem X5_init_k3a (h : cm_H) : cm_x 47 32 [some (.inr (.inr 2))] [] h = cm_na h 1 [.inl 12, .inr (.inr 2)] (fun st h => cm_x 47 37 [some (.inr (.inr 2))] st h) := (cm_un_eq [37] 47 3 32 _ _ _).symm.trans rfl
theorem X5_init_k3b (h : cm_H) : cm_x 47 37 [some (.inr (.inr 2))] st h = cm_pf h 2 5 11 st (fun st h => cm_x 47 40 [some (.inr (.inr 2))] st h) := (cm_un_eq [40] 47 1 37 _ _ _).symm.trans rfl
theorem X5_init_k3 (hf : cm_frs 7 Rf D) : cm_x 47 32 [some (.inr (.inr 2))] [] (cm_cs L 7 Rf D s) = cm_x 47 40 [some (.inr (.inr 2))] [] (cm_cs L 8 (cm_up Rf 2 (11 : Nat) 7) D (s + 12)) := by
  rw [X5_init_k3a, na_s (n := 12) (m := 12) hf (by omega) rfl rfl (by omega), X5_init_k3b, pf_s (by omega) (by omega) rfl]
theorem X5_init_k3f (hf : cm_frs 7 Rf D) : cm_frs 8 (cm_up Rf 2 (11 : Nat) 7) D := fr_u (fr_m (hf) (by omega)) (by omega)
theorem X5_init_k4a (h : cm_H) : cm_x 47 40 [some (.inr (.inr 2))] [] h = cm_na h 1 [.inl 96, .inr (.inr 2)] (fun st h => cm_x 47 45 [some (.inr (.inr 2))] st h) := (cm_un_eq [45] 47 3 40 _ _ _).symm.trans rfl
theorem X5_init_k4b (h : cm_H) : cm_x 47 45 [some (.inr (.inr 2))] st h = cm_pf h 2 5 12 st (fun st h => cm_x 47 48 [some (.inr (.inr 2))] st h) := (cm_un_eq [48] 47 1 45 _ _ _).symm.trans rfl
theorem X5_init_k4 (hf : cm_frs 8 Rf D) : cm_x 47 40 [some (.inr (.inr 2))] [] (cm_cs L 8 Rf D s) = cm_x 47 48 [some (.inr (.inr 2))] [] (cm_cs L 9 (cm_up Rf 2 (12 : Nat) 8) D (s + 96)) := by
  rw [X5_init_k4a, na_s (n := 96) (m := 96) hf (by omega) rfl rfl (by omega), X5_init_k4b, pf_s (by omega) (by omega) rfl]
theorem X5_init_k4f (hf : cm_frs 8 Rf D) : cm_frs 9 (cm_up Rf 2 (12 : Nat) 8) D := fr_u (fr_m (hf) (by omega)) (by omega)
theorem X5_init_e (h : cm_H) : cm_x 47 48 [some (.inr (.inr 2))] [] h = some (.inl none, h) := (cm_un_eq [] 47 1 48 _ _ _).symm.trans rfl
theorem fr5 (hf : cm_frs 2 Rf D) : cm_frs 9 (cm_up (cm_up (cm_up (cm_up (cm_up (cm_ua Rf 3 (cm_rF [4])) 2 (0 : Nat) 3) 2 (8 : Nat) 5) 2 (10 : Nat) 6) 2 (11 : Nat) 7) 2 (12 : Nat) 8) D := X5_init_k4f (X5_init_k3f (X5_init_k2f (X5_init_k1f (X5_init_k0f (fr_m (k := 2) hf (by omega))))))
theorem i_X5 (hf : cm_frs 3 Rf D) (h0 : Rf 2 = fun _ => 400000) : cm_x 47 0 [some (.inr (.inr 2))] [] (cm_cs L 3 Rf D s) = some (.inl none, cm_cs L 9 (cm_up (cm_up (cm_up (cm_up (cm_up (cm_ua Rf 3 (cm_rF [4])) 2 (0 : Nat) 3) 2 (8 : Nat) 5) 2 (10 : Nat) 6) 2 (11 : Nat) 7) 2 (12 : Nat) 8) D (s + 7 + 0 + 400 + 12 + 12 + 96)) := by
  rw [X5_init_k0 (hf), X5_init_k1 (X5_init_k0f (hf)), X5_init_k2 (X5_init_k1f (X5_init_k0f (hf))), X5_init_k3 (X5_init_k2f (X5_init_k1f (X5_init_k0f (hf)))), X5_init_k4 (X5_init_k3f (X5_init_k2f (X5_init_k1f (X5_init_k0f (hf))))), X5_init_e]
theorem X4_init_k0a (h : cm_H) : cm_x 46 0 [some (.inr (.inr 308))] [] h = cm_nw h 2 11 [.inr (.inr 308)] (fun st h => cm_x 46 8 [some (.inr (.inr 308))] st h) := (cm_un_eq [8] 46 4 0 _ _ _).symm.trans rfl
theorem X4_init_k0b (x : Nat) (h : cm_H) : cm_x 46 8 [some (.inr (.inr 308))] [.inr (.inr x), .inr (.inr 308)] h = cm_x 46 9 [some (.inr (.inr 308))] [.inr (.inr x), .inr (.inr x), .inr (.inr 308)] h := (cm_un_eq [9] 46 1 8 _ _ _).symm.trans rfl
theorem X4_init_k0c {ls : cm_L} (h : cm_H) : cm_x 46 9 ls st h = cm_cl cm_x 46 9 3 102 15 1 ls st h := by
  rw [cm_x_eq]
  rfl
theorem X4_init_k0d (h : cm_H) : cm_x 46 12 [some (.inr (.inr 308))] st h = cm_pf h 2 4 1 st (fun st h => cm_x 46 15 [some (.inr (.inr 308))] st h) := (cm_un_eq [15] 46 1 12 _ _ _).symm.trans rfl
theorem X4_init_k0 (hf : cm_frs 309 Rf D) : cm_x 46 0 [some (.inr (.inr 308))] [] (cm_cs L 309 Rf D s) = cm_x 46 15 [some (.inr (.inr 308))] [] (cm_cs L 315 (cm_up (cm_ua Rf 309 (cm_rF [400000, 400000, 400000, 400000, 400000, 310, 311, 312, 313, 314])) 308 (1 : Nat) 309) D (s + 11 + 401 + 400 + 400 + 6000 + 400)) := by
  rw [X4_init_k0a, nw_s hf (by omega) rfl, X4_init_k0b, X4_init_k0c]
  have hcall : cm_cl cm_x 46 9 3 102 15 1 [some (.inr (.inr 308))] [.inr (.inr 309), .inr (.inr 309), .inr (.inr 308)] (cm_cs L 310 Rf D (s + 11)) = cm_aft 46 9 12 [some (.inr (.inr 308))] [.inr (.inr 309), .inr (.inr 308)] (cm_x 15 0 [some (.inr (.inr 309))] [] (cm_cs L 310 Rf D (s + 11))) := own_s (ci := 2) (a := 309) (by omega) rfl rfl rfl
  have hin : cm_x 15 0 [some (.inr (.inr 309))] [] (cm_cs L 310 Rf D (s + 11)) = some (.inl none, cm_cs L 315 (cm_ua Rf 309 (cm_rF [400000, 400000, 400000, 400000, 400000, 310, 311, 312, 313, 314])) D (s + 11 + 401 + 400 + 400 + 6000 + 400)) := i_X2 (a := 309) rfl rfl rfl rfl rfl rfl (fr_m hf (by omega)) (hf _ (Nat.le_refl _) (by omega)).1 (by omega)
  refine hcall.trans ?_
  rw [hin, aft_n, X4_init_k0d, pf_s (by omega) (by omega) rfl]
theorem X4_init_k0f (hf : cm_frs 309 Rf D) : cm_frs 315 (cm_up (cm_ua Rf 309 (cm_rF [400000, 400000, 400000, 400000, 400000, 310, 311, 312, 313, 314])) 308 (1 : Nat) 309) D := fr_u (fr_a (fr_m (hf) (by omega)) (by omega)) (by omega)
theorem X4_init_k1a (h : cm_H) : cm_x 46 15 [some (.inr (.inr 308))] [] h = cm_nw h 6 11 [.inr (.inr 308)] (fun st h => cm_x 46 19 [some (.inr (.inr 308))] st h) := (cm_un_eq [19] 46 2 15 _ _ _).symm.trans rfl
theorem X4_init_k1b (x : Nat) (h : cm_H) : cm_x 46 19 [some (.inr (.inr 308))] [.inr (.inr x), .inr (.inr 308)] h = cm_x 46 20 [some (.inr (.inr 308))] [.inr (.inr x), .inr (.inr x), .inr (.inr 308)] h := (cm_un_eq [20] 46 1 19 _ _ _).symm.trans rfl
theorem X4_init_k1c {ls : cm_L} (h : cm_H) : cm_x 46 20 ls st h = cm_cl cm_x 46 20 3 106 61 1 ls st h := by
  rw [cm_x_eq]
  rfl
theorem X4_init_k1d (h : cm_H) : cm_x 46 23 [some (.inr (.inr 308))] st h = cm_pf h 2 4 2 st (fun st h => cm_x 46 26 [some (.inr (.inr 308))] st h) := (cm_un_eq [26] 46 1 23 _ _ _).symm.trans rfl
theorem X4_init_k1 (hf : cm_frs 315 Rf D) : cm_x 46 15 [some (.inr (.inr 308))] [] (cm_cs L 315 Rf D s) = cm_x 46 26 [some (.inr (.inr 308))] [] (cm_cs L 322 (cm_up (cm_ua Rf 315 (cm_rF [316, 317, 318, 319, 320, 321])) 308 (2 : Nat) 315) D (s + 11 + 12 + 12 + 12 + 96 + 96 + 13)) := by
  rw [X4_init_k1a, nw_s hf (by omega) rfl, X4_init_k1b, X4_init_k1c]
  have hcall : cm_cl cm_x 46 20 3 106 61 1 [some (.inr (.inr 308))] [.inr (.inr 315), .inr (.inr 315), .inr (.inr 308)] (cm_cs L 316 Rf D (s + 11)) = cm_aft 46 20 23 [some (.inr (.inr 308))] [.inr (.inr 315), .inr (.inr 308)] (cm_x 61 0 [some (.inr (.inr 315))] [] (cm_cs L 316 Rf D (s + 11))) := own_s (ci := 6) (a := 315) (by omega) rfl rfl rfl
  have hin : cm_x 61 0 [some (.inr (.inr 315))] [] (cm_cs L 316 Rf D (s + 11)) = some (.inl none, cm_cs L 322 (cm_ua Rf 315 (cm_rF [316, 317, 318, 319, 320, 321])) D (s + 11 + 12 + 12 + 12 + 96 + 96 + 13)) := i_X6 (a := 315) rfl rfl rfl rfl rfl rfl rfl (fr_m hf (by omega)) (hf _ (Nat.le_refl _) (by omega)).1 (by omega)
  refine hcall.trans ?_
  rw [hin, aft_n, X4_init_k1d, pf_s (by omega) (by omega) rfl]
theorem X4_init_k1f (hf : cm_frs 315 Rf D) : cm_frs 322 (cm_up (cm_ua Rf 315 (cm_rF [316, 317, 318, 319, 320, 321])) 308 (2 : Nat) 315) D := fr_u (fr_a (fr_m (hf) (by omega)) (by omega)) (by omega)
theorem X4_init_k2a (h : cm_H) : cm_x 46 26 [some (.inr (.inr 308))] [] h = cm_nw h 0 3 [.inr (.inr 308)] (fun st h => cm_x 46 30 [some (.inr (.inr 308))] st h) := (cm_un_eq [30] 46 2 26 _ _ _).symm.trans rfl
theorem X4_init_k2b (x : Nat) (h : cm_H) : cm_x 46 30 [some (.inr (.inr 308))] [.inr (.inr x), .inr (.inr 308)] h = cm_x 46 31 [some (.inr (.inr 308))] [.inr (.inr x), .inr (.inr x), .inr (.inr 308)] h := (cm_un_eq [31] 46 1 30 _ _ _).symm.trans rfl
theorem X4_init_k2c {ls : cm_L} (h : cm_H) : cm_x 46 31 ls st h = cm_cl cm_x 46 31 3 100 0 1 ls st h := by
  rw [cm_x_eq]
  rfl
theorem X4_init_k2d (h : cm_H) : cm_x 46 34 [some (.inr (.inr 308))] st h = cm_pf h 2 4 3 st (fun st h => cm_x 46 37 [some (.inr (.inr 308))] st h) := (cm_un_eq [37] 46 1 34 _ _ _).symm.trans rfl
theorem X4_init_k2 (hf : cm_frs 322 Rf D) : cm_x 46 26 [some (.inr (.inr 308))] [] (cm_cs L 322 Rf D s) = cm_x 46 37 [some (.inr (.inr 308))] [] (cm_cs L 604 (cm_up (cm_RA 322 40 Rf) 308 (3 : Nat) 322) D (s + 3 + 40 + 10080)) := by
  rw [X4_init_k2a, nw_s hf (by omega) rfl, X4_init_k2b, X4_init_k2c]
  have hcall : cm_cl cm_x 46 31 3 100 0 1 [some (.inr (.inr 308))] [.inr (.inr 322), .inr (.inr 322), .inr (.inr 308)] (cm_cs L 323 Rf D (s + 3)) = cm_aft 46 31 34 [some (.inr (.inr 308))] [.inr (.inr 322), .inr (.inr 308)] (cm_x 0 0 [some (.inr (.inr 322)), none] [] (cm_cs L 323 Rf D (s + 3))) := own_s (ci := 0) (a := 322) (by omega) rfl rfl rfl
  have hin : cm_x 0 0 [some (.inr (.inr 322)), none] [] (cm_cs L 323 Rf D (s + 3)) = some (.inl none, cm_cs L 604 (cm_RA 322 40 Rf) D (s + 3 + 40 + 10080)) := i_X0 (a := 322) rfl rfl (hK_322 L) (fr_m hf (by omega)) (hf _ (Nat.le_refl _) (by omega)).1 (by omega)
  refine hcall.trans ?_
  rw [hin, aft_n, X4_init_k2d, pf_s (by omega) (by omega) rfl]
theorem X4_init_k2f (hf : cm_frs 322 Rf D) : cm_frs 604 (cm_up (cm_RA 322 40 Rf) 308 (3 : Nat) 322) D := fr_u (RA_fr (a := 322) (j := 40) (fr_m (hf) (by omega))) (by omega)
theorem X4_init_e (h : cm_H) : cm_x 46 37 [some (.inr (.inr 308))] [] h = some (.inl none, h) := (cm_un_eq [] 46 1 37 _ _ _).symm.trans rfl
theorem fr4 (hf : cm_frs 308 Rf D) : cm_frs 604 (cm_up (cm_RA 322 40 (cm_up (cm_ua (cm_up (cm_ua Rf 309 (cm_rF [400000, 400000, 400000, 400000, 400000, 310, 311, 312, 313, 314])) 308 (1 : Nat) 309) 315 (cm_rF [316, 317, 318, 319, 320, 321])) 308 (2 : Nat) 315)) 308 (3 : Nat) 322) D := X4_init_k2f (X4_init_k1f (X4_init_k0f (fr_m (k := 308) hf (by omega))))
theorem i_X4 (hf : cm_frs 309 Rf D) (h0 : Rf 308 = fun _ => 400000) : cm_x 46 0 [some (.inr (.inr 308))] [] (cm_cs L 309 Rf D s) = some (.inl none, cm_cs L 604 (cm_up (cm_RA 322 40 (cm_up (cm_ua (cm_up (cm_ua Rf 309 (cm_rF [400000, 400000, 400000, 400000, 400000, 310, 311, 312, 313, 314])) 308 (1 : Nat) 309) 315 (cm_rF [316, 317, 318, 319, 320, 321])) 308 (2 : Nat) 315)) 308 (3 : Nat) 322) D (s + 11 + 401 + 400 + 400 + 6000 + 400 + 11 + 12 + 12 + 12 + 96 + 96 + 13 + 3 + 40 + 10080)) := by
  rw [X4_init_k0 (hf), X4_init_k1 (X4_init_k0f (hf)), X4_init_k2 (X4_init_k1f (X4_init_k0f (hf))), X4_init_e]
theorem X8_init_k0a (h : cm_H) : cm_x 100 0 [some (.inr (.inr 0))] [] h = cm_na h 1 [.inl 700, .inr (.inr 0)] (fun st h => cm_x 100 10 [some (.inr (.inr 0))] st h) := (cm_un_eq [10] 100 5 0 _ _ _).symm.trans rfl
theorem X8_init_k0b (h : cm_H) : cm_x 100 10 [some (.inr (.inr 0))] st h = cm_pf h 2 8 0 st (fun st h => cm_x 100 13 [some (.inr (.inr 0))] st h) := (cm_un_eq [13] 100 1 10 _ _ _).symm.trans rfl
theorem X8_init_k0 (hf : cm_frs 1 Rf D) : cm_x 100 0 [some (.inr (.inr 0))] [] (cm_cs L 1 Rf D s) = cm_x 100 13 [some (.inr (.inr 0))] [] (cm_cs L 2 (cm_up Rf 0 (0 : Nat) 1) D (s + 700)) := by
  rw [X8_init_k0a, na_s (n := 700) (m := 700) hf (by omega) rfl rfl (by omega), X8_init_k0b, pf_s (by omega) (by omega) rfl]
theorem X8_init_k0f (hf : cm_frs 1 Rf D) : cm_frs 2 (cm_up Rf 0 (0 : Nat) 1) D := fr_u (fr_m (hf) (by omega)) (by omega)
theorem X8_init_k1a (h : cm_H) : cm_x 100 13 [some (.inr (.inr 0))] [] h = cm_nw h 5 14 [.inr (.inr 0)] (fun st h => cm_x 100 17 [some (.inr (.inr 0))] st h) := (cm_un_eq [17] 100 2 13 _ _ _).symm.trans rfl
theorem X8_init_k1b (x : Nat) (h : cm_H) : cm_x 100 17 [some (.inr (.inr 0))] [.inr (.inr x), .inr (.inr 0)] h = cm_x 100 18 [some (.inr (.inr 0))] [.inr (.inr x), .inr (.inr x), .inr (.inr 0)] h := (cm_un_eq [18] 100 1 17 _ _ _).symm.trans rfl
theorem X8_init_k1c {ls : cm_L} (h : cm_H) : cm_x 100 18 ls st h = cm_cl cm_x 100 18 3 105 47 1 ls st h := by
  rw [cm_x_eq]
  rfl
theorem X8_init_k1d (h : cm_H) : cm_x 100 21 [some (.inr (.inr 0))] st h = cm_pf h 2 8 2 st (fun st h => cm_x 100 24 [some (.inr (.inr 0))] st h) := (cm_un_eq [24] 100 1 21 _ _ _).symm.trans rfl
theorem X8_init_k1 (hf : cm_frs 2 Rf D) : cm_x 100 13 [some (.inr (.inr 0))] [] (cm_cs L 2 Rf D s) = cm_x 100 24 [some (.inr (.inr 0))] [] (cm_cs L 9 (cm_up (cm_up (cm_up (cm_up (cm_up (cm_up (cm_ua Rf 3 (cm_rF [4])) 2 (0 : Nat) 3) 2 (8 : Nat) 5) 2 (10 : Nat) 6) 2 (11 : Nat) 7) 2 (12 : Nat) 8) 0 (2 : Nat) 2) D (s + 14  + 7 + 0 + 400 + 12 + 12 + 96)) := by
  rw [X8_init_k1a, nw_s hf (by omega) rfl, X8_init_k1b, X8_init_k1c]
  have hcall : cm_cl cm_x 100 18 3 105 47 1 [some (.inr (.inr 0))] [.inr (.inr 2), .inr (.inr 2), .inr (.inr 0)] (cm_cs L 3 Rf D (s + 14)) = cm_aft 100 18 21 [some (.inr (.inr 0))] [.inr (.inr 2), .inr (.inr 0)] (cm_x 47 0 [some (.inr (.inr 2))] [] (cm_cs L 3 Rf D (s + 14))) := own_s (ci := 5) (a := 2) (by omega) rfl rfl rfl
  have hin : cm_x 47 0 [some (.inr (.inr 2))] [] (cm_cs L 3 Rf D (s + 14)) = some (.inl none, cm_cs L 9 (cm_up (cm_up (cm_up (cm_up (cm_up (cm_ua Rf 3 (cm_rF [4])) 2 (0 : Nat) 3) 2 (8 : Nat) 5) 2 (10 : Nat) 6) 2 (11 : Nat) 7) 2 (12 : Nat) 8) D (s + 14  + 7 + 0 + 400 + 12 + 12 + 96)) := i_X5 (fr_m hf (by omega)) (hf _ (Nat.le_refl _) (by omega)).1
  refine hcall.trans ?_
  rw [hin, aft_n, X8_init_k1d, pf_s (by omega) (by omega) rfl]
theorem X8_init_k1f (hf : cm_frs 2 Rf D) : cm_frs 9 (cm_up (cm_up (cm_up (cm_up (cm_up (cm_up (cm_ua Rf 3 (cm_rF [4])) 2 (0 : Nat) 3) 2 (8 : Nat) 5) 2 (10 : Nat) 6) 2 (11 : Nat) 7) 2 (12 : Nat) 8) 0 (2 : Nat) 2) D := fr_u (fr5 (hf)) (by omega)
theorem X8_init_k2a (h : cm_H) : cm_x 100 24 [some (.inr (.inr 0))] [] h = cm_pf h 0 8 3 [.inl (-1), .inr (.inr 0)] (fun st h => cm_x 100 29 [some (.inr (.inr 0))] st h) := (cm_un_eq [29] 100 3 24 _ _ _).symm.trans rfl
theorem X8_init_k2 : cm_x 100 24 [some (.inr (.inr 0))] [] (cm_cs L 9 Rf D s) = cm_x 100 29 [some (.inr (.inr 0))] [] (cm_cs L 9 Rf (cm_up D 0 (3 : Nat) (-1)) s) := by
  rw [X8_init_k2a, pi_s (by omega) rfl]
theorem X8_init_k2f (hf : cm_frs 9 Rf D) : cm_frs 9 Rf (cm_up D 0 (3 : Nat) (-1)) := fr_d hf (by omega)
theorem X8_init_k3a (h : cm_H) : cm_x 100 29 [some (.inr (.inr 0))] [] h = cm_nw h 2 11 [.inr (.inr 0)] (fun st h => cm_x 100 33 [some (.inr (.inr 0))] st h) := (cm_un_eq [33] 100 2 29 _ _ _).symm.trans rfl
theorem X8_init_k3b (x : Nat) (h : cm_H) : cm_x 100 33 [some (.inr (.inr 0))] [.inr (.inr x), .inr (.inr 0)] h = cm_x 100 34 [some (.inr (.inr 0))] [.inr (.inr x), .inr (.inr x), .inr (.inr 0)] h := (cm_un_eq [34] 100 1 33 _ _ _).symm.trans rfl
theorem X8_init_k3c {ls : cm_L} (h : cm_H) : cm_x 100 34 ls st h = cm_cl cm_x 100 34 3 102 15 1 ls st h := by
  rw [cm_x_eq]
  rfl
theorem X8_init_k3d (h : cm_H) : cm_x 100 37 [some (.inr (.inr 0))] st h = cm_pf h 2 8 4 st (fun st h => cm_x 100 40 [some (.inr (.inr 0))] st h) := (cm_un_eq [40] 100 1 37 _ _ _).symm.trans rfl
theorem X8_init_k3 (hf : cm_frs 9 Rf D) : cm_x 100 29 [some (.inr (.inr 0))] [] (cm_cs L 9 Rf D s) = cm_x 100 40 [some (.inr (.inr 0))] [] (cm_cs L 15 (cm_up (cm_ua Rf 9 (cm_rF [400000, 400000, 400000, 400000, 400000, 10, 11, 12, 13, 14])) 0 (4 : Nat) 9) D (s + 11 + 401 + 400 + 400 + 6000 + 400)) := by
  rw [X8_init_k3a, nw_s hf (by omega) rfl, X8_init_k3b, X8_init_k3c]
  have hcall : cm_cl cm_x 100 34 3 102 15 1 [some (.inr (.inr 0))] [.inr (.inr 9), .inr (.inr 9), .inr (.inr 0)] (cm_cs L 10 Rf D (s + 11)) = cm_aft 100 34 37 [some (.inr (.inr 0))] [.inr (.inr 9), .inr (.inr 0)] (cm_x 15 0 [some (.inr (.inr 9))] [] (cm_cs L 10 Rf D (s + 11))) := own_s (ci := 2) (a := 9) (by omega) rfl rfl rfl
  have hin : cm_x 15 0 [some (.inr (.inr 9))] [] (cm_cs L 10 Rf D (s + 11)) = some (.inl none, cm_cs L 15 (cm_ua Rf 9 (cm_rF [400000, 400000, 400000, 400000, 400000, 10, 11, 12, 13, 14])) D (s + 11 + 401 + 400 + 400 + 6000 + 400)) := i_X2 (a := 9) rfl rfl rfl rfl rfl rfl (fr_m hf (by omega)) (hf _ (Nat.le_refl _) (by omega)).1 (by omega)
  refine hcall.trans ?_
  rw [hin, aft_n, X8_init_k3d, pf_s (by omega) (by omega) rfl]
theorem X8_init_k3f (hf : cm_frs 9 Rf D) : cm_frs 15 (cm_up (cm_ua Rf 9 (cm_rF [400000, 400000, 400000, 400000, 400000, 10, 11, 12, 13, 14])) 0 (4 : Nat) 9) D := fr_u (fr_a (fr_m (hf) (by omega)) (by omega)) (by omega)
theorem X8_init_k4a (h : cm_H) : cm_x 100 40 [some (.inr (.inr 0))] [] h = cm_nw h 6 11 [.inr (.inr 0)] (fun st h => cm_x 100 44 [some (.inr (.inr 0))] st h) := (cm_un_eq [44] 100 2 40 _ _ _).symm.trans rfl
theorem X8_init_k4b (x : Nat) (h : cm_H) : cm_x 100 44 [some (.inr (.inr 0))] [.inr (.inr x), .inr (.inr 0)] h = cm_x 100 45 [some (.inr (.inr 0))] [.inr (.inr x), .inr (.inr x), .inr (.inr 0)] h := (cm_un_eq [45] 100 1 44 _ _ _).symm.trans rfl
theorem X8_init_k4c {ls : cm_L} (h : cm_H) : cm_x 100 45 ls st h = cm_cl cm_x 100 45 3 106 61 1 ls st h := by
  rw [cm_x_eq]
  rfl
theorem X8_init_k4d (h : cm_H) : cm_x 100 48 [some (.inr (.inr 0))] st h = cm_pf h 2 8 5 st (fun st h => cm_x 100 51 [some (.inr (.inr 0))] st h) := (cm_un_eq [51] 100 1 48 _ _ _).symm.trans rfl
theorem X8_init_k4 (hf : cm_frs 15 Rf D) : cm_x 100 40 [some (.inr (.inr 0))] [] (cm_cs L 15 Rf D s) = cm_x 100 51 [some (.inr (.inr 0))] [] (cm_cs L 22 (cm_up (cm_ua Rf 15 (cm_rF [16, 17, 18, 19, 20, 21])) 0 (5 : Nat) 15) D (s + 11 + 12 + 12 + 12 + 96 + 96 + 13)) := by
  rw [X8_init_k4a, nw_s hf (by omega) rfl, X8_init_k4b, X8_init_k4c]
  have hcall : cm_cl cm_x 100 45 3 106 61 1 [some (.inr (.inr 0))] [.inr (.inr 15), .inr (.inr 15), .inr (.inr 0)] (cm_cs L 16 Rf D (s + 11)) = cm_aft 100 45 48 [some (.inr (.inr 0))] [.inr (.inr 15), .inr (.inr 0)] (cm_x 61 0 [some (.inr (.inr 15))] [] (cm_cs L 16 Rf D (s + 11))) := own_s (ci := 6) (a := 15) (by omega) rfl rfl rfl
  have hin : cm_x 61 0 [some (.inr (.inr 15))] [] (cm_cs L 16 Rf D (s + 11)) = some (.inl none, cm_cs L 22 (cm_ua Rf 15 (cm_rF [16, 17, 18, 19, 20, 21])) D (s + 11 + 12 + 12 + 12 + 96 + 96 + 13)) := i_X6 (a := 15) rfl rfl rfl rfl rfl rfl rfl (fr_m hf (by omega)) (hf _ (Nat.le_refl _) (by omega)).1 (by omega)
  refine hcall.trans ?_
  rw [hin, aft_n, X8_init_k4d, pf_s (by omega) (by omega) rfl]
theorem X8_init_k4f (hf : cm_frs 15 Rf D) : cm_frs 22 (cm_up (cm_ua Rf 15 (cm_rF [16, 17, 18, 19, 20, 21])) 0 (5 : Nat) 15) D := fr_u (fr_a (fr_m (hf) (by omega)) (by omega)) (by omega)
theorem X8_init_k5a (h : cm_H) : cm_x 100 51 [some (.inr (.inr 0))] [] h = cm_nw h 1 4 [.inr (.inr 0)] (fun st h => cm_x 100 55 [some (.inr (.inr 0))] st h) := (cm_un_eq [55] 100 2 51 _ _ _).symm.trans rfl
theorem X8_init_k5b (x : Nat) (h : cm_H) : cm_x 100 55 [some (.inr (.inr 0))] [.inr (.inr x), .inr (.inr 0)] h = cm_x 100 56 [some (.inr (.inr 0))] [.inr (.inr x), .inr (.inr x), .inr (.inr 0)] h := (cm_un_eq [56] 100 1 55 _ _ _).symm.trans rfl
theorem X8_init_k5c {ls : cm_L} (h : cm_H) : cm_x 100 56 ls st h = cm_cl cm_x 100 56 3 101 5 1 ls st h := by
  rw [cm_x_eq]
  rfl
theorem X8_init_k5d (h : cm_H) : cm_x 100 59 [some (.inr (.inr 0))] st h = cm_pf h 2 8 6 st (fun st h => cm_x 100 62 [some (.inr (.inr 0))] st h) := (cm_un_eq [62] 100 1 59 _ _ _).symm.trans rfl
theorem X8_init_k5 (hf : cm_frs 22 Rf D) : cm_x 100 51 [some (.inr (.inr 0))] [] (cm_cs L 22 Rf D s) = cm_x 100 62 [some (.inr (.inr 0))] [] (cm_cs L 26 (cm_up (cm_ua Rf 22 (cm_rF [23, 24, 25])) 0 (6 : Nat) 22) D (s + 4 + 126 + 126 + 126)) := by
  rw [X8_init_k5a, nw_s hf (by omega) rfl, X8_init_k5b, X8_init_k5c]
  have hcall : cm_cl cm_x 100 56 3 101 5 1 [some (.inr (.inr 0))] [.inr (.inr 22), .inr (.inr 22), .inr (.inr 0)] (cm_cs L 23 Rf D (s + 4)) = cm_aft 100 56 59 [some (.inr (.inr 0))] [.inr (.inr 22), .inr (.inr 0)] (cm_x 5 0 [some (.inr (.inr 22))] [] (cm_cs L 23 Rf D (s + 4))) := own_s (ci := 1) (a := 22) (by omega) rfl rfl rfl
  have hin : cm_x 5 0 [some (.inr (.inr 22))] [] (cm_cs L 23 Rf D (s + 4)) = some (.inl none, cm_cs L 26 (cm_ua Rf 22 (cm_rF [23, 24, 25])) D (s + 4 + 126 + 126 + 126)) := i_X1 (a := 22) rfl rfl rfl rfl (fr_m hf (by omega)) (hf _ (Nat.le_refl _) (by omega)).1 (by omega)
  refine hcall.trans ?_
  rw [hin, aft_n, X8_init_k5d, pf_s (by omega) (by omega) rfl]
theorem X8_init_k5f (hf : cm_frs 22 Rf D) : cm_frs 26 (cm_up (cm_ua Rf 22 (cm_rF [23, 24, 25])) 0 (6 : Nat) 22) D := fr_u (fr_a (fr_m (hf) (by omega)) (by omega)) (by omega)
theorem X8_init_k6a (h : cm_H) : cm_x 100 62 [some (.inr (.inr 0))] [] h = cm_nw h 0 3 [.inr (.inr 0)] (fun st h => cm_x 100 66 [some (.inr (.inr 0))] st h) := (cm_un_eq [66] 100 2 62 _ _ _).symm.trans rfl
theorem X8_init_k6b (x : Nat) (h : cm_H) : cm_x 100 66 [some (.inr (.inr 0))] [.inr (.inr x), .inr (.inr 0)] h = cm_x 100 67 [some (.inr (.inr 0))] [.inr (.inr x), .inr (.inr x), .inr (.inr 0)] h := (cm_un_eq [67] 100 1 66 _ _ _).symm.trans rfl
theorem X8_init_k6c {ls : cm_L} (h : cm_H) : cm_x 100 67 ls st h = cm_cl cm_x 100 67 3 100 0 1 ls st h := by
  rw [cm_x_eq]
  rfl
theorem X8_init_k6d (h : cm_H) : cm_x 100 70 [some (.inr (.inr 0))] st h = cm_pf h 2 8 7 st (fun st h => cm_x 100 73 [some (.inr (.inr 0))] st h) := (cm_un_eq [73] 100 1 70 _ _ _).symm.trans rfl
theorem X8_init_k6 (hf : cm_frs 26 Rf D) : cm_x 100 62 [some (.inr (.inr 0))] [] (cm_cs L 26 Rf D s) = cm_x 100 73 [some (.inr (.inr 0))] [] (cm_cs L 308 (cm_up (cm_RA 26 40 Rf) 0 (7 : Nat) 26) D (s + 3 + 40 + 10080)) := by
  rw [X8_init_k6a, nw_s hf (by omega) rfl, X8_init_k6b, X8_init_k6c]
  have hcall : cm_cl cm_x 100 67 3 100 0 1 [some (.inr (.inr 0))] [.inr (.inr 26), .inr (.inr 26), .inr (.inr 0)] (cm_cs L 27 Rf D (s + 3)) = cm_aft 100 67 70 [some (.inr (.inr 0))] [.inr (.inr 26), .inr (.inr 0)] (cm_x 0 0 [some (.inr (.inr 26)), none] [] (cm_cs L 27 Rf D (s + 3))) := own_s (ci := 0) (a := 26) (by omega) rfl rfl rfl
  have hin : cm_x 0 0 [some (.inr (.inr 26)), none] [] (cm_cs L 27 Rf D (s + 3)) = some (.inl none, cm_cs L 308 (cm_RA 26 40 Rf) D (s + 3 + 40 + 10080)) := i_X0 (a := 26) rfl rfl (hK_26 L) (fr_m hf (by omega)) (hf _ (Nat.le_refl _) (by omega)).1 (by omega)
  refine hcall.trans ?_
  rw [hin, aft_n, X8_init_k6d, pf_s (by omega) (by omega) rfl]
theorem X8_init_k6f (hf : cm_frs 26 Rf D) : cm_frs 308 (cm_up (cm_RA 26 40 Rf) 0 (7 : Nat) 26) D := fr_u (RA_fr (a := 26) (j := 40) (fr_m (hf) (by omega))) (by omega)
theorem X8_init_k7a (h : cm_H) : cm_x 100 73 [some (.inr (.inr 0))] [] h = cm_nw h 4 6 [.inr (.inr 0)] (fun st h => cm_x 100 77 [some (.inr (.inr 0))] st h) := (cm_un_eq [77] 100 2 73 _ _ _).symm.trans rfl
theorem X8_init_k7b (x : Nat) (h : cm_H) : cm_x 100 77 [some (.inr (.inr 0))] [.inr (.inr x), .inr (.inr 0)] h = cm_x 100 78 [some (.inr (.inr 0))] [.inr (.inr x), .inr (.inr x), .inr (.inr 0)] h := (cm_un_eq [78] 100 1 77 _ _ _).symm.trans rfl
theorem X8_init_k7c {ls : cm_L} (h : cm_H) : cm_x 100 78 ls st h = cm_cl cm_x 100 78 3 104 46 1 ls st h := by
  rw [cm_x_eq]
  rfl
theorem X8_init_k7d (h : cm_H) : cm_x 100 81 [some (.inr (.inr 0))] st h = cm_pf h 2 8 10 st (fun st h => cm_x 100 84 [some (.inr (.inr 0))] st h) := (cm_un_eq [84] 100 1 81 _ _ _).symm.trans rfl
theorem X8_init_k7 (hf : cm_frs 308 Rf D) : cm_x 100 73 [some (.inr (.inr 0))] [] (cm_cs L 308 Rf D s) = cm_x 100 84 [some (.inr (.inr 0))] [] (cm_cs L 604 (cm_up (cm_up (cm_RA 322 40 (cm_up (cm_ua (cm_up (cm_ua Rf 309 (cm_rF [400000, 400000, 400000, 400000, 400000, 310, 311, 312, 313, 314])) 308 (1 : Nat) 309) 315 (cm_rF [316, 317, 318, 319, 320, 321])) 308 (2 : Nat) 315)) 308 (3 : Nat) 322) 0 (10 : Nat) 308) D (s + 6  + 11 + 401 + 400 + 400 + 6000 + 400 + 11 + 12 + 12 + 12 + 96 + 96 + 13 + 3 + 40 + 10080)) := by
  rw [X8_init_k7a, nw_s hf (by omega) rfl, X8_init_k7b, X8_init_k7c]
  have hcall : cm_cl cm_x 100 78 3 104 46 1 [some (.inr (.inr 0))] [.inr (.inr 308), .inr (.inr 308), .inr (.inr 0)] (cm_cs L 309 Rf D (s + 6)) = cm_aft 100 78 81 [some (.inr (.inr 0))] [.inr (.inr 308), .inr (.inr 0)] (cm_x 46 0 [some (.inr (.inr 308))] [] (cm_cs L 309 Rf D (s + 6))) := own_s (ci := 4) (a := 308) (by omega) rfl rfl rfl
  have hin : cm_x 46 0 [some (.inr (.inr 308))] [] (cm_cs L 309 Rf D (s + 6)) = some (.inl none, cm_cs L 604 (cm_up (cm_RA 322 40 (cm_up (cm_ua (cm_up (cm_ua Rf 309 (cm_rF [400000, 400000, 400000, 400000, 400000, 310, 311, 312, 313, 314])) 308 (1 : Nat) 309) 315 (cm_rF [316, 317, 318, 319, 320, 321])) 308 (2 : Nat) 315)) 308 (3 : Nat) 322) D (s + 6  + 11 + 401 + 400 + 400 + 6000 + 400 + 11 + 12 + 12 + 12 + 96 + 96 + 13 + 3 + 40 + 10080)) := i_X4 (fr_m hf (by omega)) (hf _ (Nat.le_refl _) (by omega)).1
  refine hcall.trans ?_
  rw [hin, aft_n, X8_init_k7d, pf_s (by omega) (by omega) rfl]
theorem X8_init_k7f (hf : cm_frs 308 Rf D) : cm_frs 604 (cm_up (cm_up (cm_RA 322 40 (cm_up (cm_ua (cm_up (cm_ua Rf 309 (cm_rF [400000, 400000, 400000, 400000, 400000, 310, 311, 312, 313, 314])) 308 (1 : Nat) 309) 315 (cm_rF [316, 317, 318, 319, 320, 321])) 308 (2 : Nat) 315)) 308 (3 : Nat) 322) 0 (10 : Nat) 308) D := fr_u (fr4 (hf)) (by omega)
theorem X8_init_k8a (h : cm_H) : cm_x 100 84 [some (.inr (.inr 0))] [] h = cm_nw h 6 11 [.inr (.inr 0)] (fun st h => cm_x 100 88 [some (.inr (.inr 0))] st h) := (cm_un_eq [88] 100 2 84 _ _ _).symm.trans rfl
theorem X8_init_k8b (x : Nat) (h : cm_H) : cm_x 100 88 [some (.inr (.inr 0))] [.inr (.inr x), .inr (.inr 0)] h = cm_x 100 89 [some (.inr (.inr 0))] [.inr (.inr x), .inr (.inr x), .inr (.inr 0)] h := (cm_un_eq [89] 100 1 88 _ _ _).symm.trans rfl
theorem X8_init_k8c {ls : cm_L} (h : cm_H) : cm_x 100 89 ls st h = cm_cl cm_x 100 89 3 106 61 1 ls st h := by
  rw [cm_x_eq]
  rfl
theorem X8_init_k8d (h : cm_H) : cm_x 100 92 [some (.inr (.inr 0))] st h = cm_pf h 2 8 11 st (fun st h => cm_x 100 95 [some (.inr (.inr 0))] st h) := (cm_un_eq [95] 100 1 92 _ _ _).symm.trans rfl
theorem X8_init_k8 (hf : cm_frs 604 Rf D) : cm_x 100 84 [some (.inr (.inr 0))] [] (cm_cs L 604 Rf D s) = cm_x 100 95 [some (.inr (.inr 0))] [] (cm_cs L 611 (cm_up (cm_ua Rf 604 (cm_rF [605, 606, 607, 608, 609, 610])) 0 (11 : Nat) 604) D (s + 11 + 12 + 12 + 12 + 96 + 96 + 13)) := by
  rw [X8_init_k8a, nw_s hf (by omega) rfl, X8_init_k8b, X8_init_k8c]
  have hcall : cm_cl cm_x 100 89 3 106 61 1 [some (.inr (.inr 0))] [.inr (.inr 604), .inr (.inr 604), .inr (.inr 0)] (cm_cs L 605 Rf D (s + 11)) = cm_aft 100 89 92 [some (.inr (.inr 0))] [.inr (.inr 604), .inr (.inr 0)] (cm_x 61 0 [some (.inr (.inr 604))] [] (cm_cs L 605 Rf D (s + 11))) := own_s (ci := 6) (a := 604) (by omega) rfl rfl rfl
  have hin : cm_x 61 0 [some (.inr (.inr 604))] [] (cm_cs L 605 Rf D (s + 11)) = some (.inl none, cm_cs L 611 (cm_ua Rf 604 (cm_rF [605, 606, 607, 608, 609, 610])) D (s + 11 + 12 + 12 + 12 + 96 + 96 + 13)) := i_X6 (a := 604) rfl rfl rfl rfl rfl rfl rfl (fr_m hf (by omega)) (hf _ (Nat.le_refl _) (by omega)).1 (by omega)
  refine hcall.trans ?_
  rw [hin, aft_n, X8_init_k8d, pf_s (by omega) (by omega) rfl]
theorem X8_init_k8f (hf : cm_frs 604 Rf D) : cm_frs 611 (cm_up (cm_ua Rf 604 (cm_rF [605, 606, 607, 608, 609, 610])) 0 (11 : Nat) 604) D := fr_u (fr_a (fr_m (hf) (by omega)) (by omega)) (by omega)
theorem X8_init_k9a (h : cm_H) : cm_x 100 95 [some (.inr (.inr 0))] [] h = cm_nw h 3 1 [.inr (.inr 0)] (fun st h => cm_x 100 99 [some (.inr (.inr 0))] st h) := (cm_un_eq [99] 100 2 95 _ _ _).symm.trans rfl
theorem X8_init_k9b (x : Nat) (h : cm_H) : cm_x 100 99 [some (.inr (.inr 0))] [.inr (.inr x), .inr (.inr 0)] h = cm_x 100 100 [some (.inr (.inr 0))] [.inr (.inr x), .inr (.inr x), .inr (.inr 0)] h := (cm_un_eq [100] 100 1 99 _ _ _).symm.trans rfl
theorem X8_init_k9c {ls : cm_L} (h : cm_H) : cm_x 100 100 ls st h = cm_cl cm_x 100 100 3 103 44 1 ls st h := by
  rw [cm_x_eq]
  rfl
theorem X8_init_k9d (h : cm_H) : cm_x 100 103 [some (.inr (.inr 0))] st h = cm_pf h 2 8 12 st (fun st h => cm_x 100 106 [some (.inr (.inr 0))] st h) := (cm_un_eq [106] 100 1 103 _ _ _).symm.trans rfl
theorem X8_init_k9 (hf : cm_frs 611 Rf D) : cm_x 100 95 [some (.inr (.inr 0))] [] (cm_cs L 611 Rf D s) = cm_x 100 106 [some (.inr (.inr 0))] [] (cm_cs L 612 (cm_up Rf 0 (12 : Nat) 611) D (s + 1)) := by
  rw [X8_init_k9a, nw_s hf (by omega) rfl, X8_init_k9b, X8_init_k9c]
  have hcall : cm_cl cm_x 100 100 3 103 44 1 [some (.inr (.inr 0))] [.inr (.inr 611), .inr (.inr 611), .inr (.inr 0)] (cm_cs L 612 Rf D (s + 1)) = cm_aft 100 100 103 [some (.inr (.inr 0))] [.inr (.inr 611), .inr (.inr 0)] (cm_x 44 0 [some (.inr (.inr 611))] [] (cm_cs L 612 Rf D (s + 1))) := own_s (ci := 3) (a := 611) (by omega) rfl rfl rfl
  have hin : cm_x 44 0 [some (.inr (.inr 611))] [] (cm_cs L 612 Rf D (s + 1)) = some (.inl none, cm_cs L 612 Rf D (s + 1)) := X3_e (a := 611) _
  refine hcall.trans ?_
  rw [hin, aft_n, X8_init_k9d, pf_s (by omega) (by omega) rfl]
theorem X8_init_k9f (hf : cm_frs 611 Rf D) : cm_frs 612 (cm_up Rf 0 (12 : Nat) 611) D := fr_u (fr_m (hf) (by omega)) (by omega)
theorem X8_init_k10a (h : cm_H) : cm_x 100 106 [some (.inr (.inr 0))] [] h = cm_na h 1 [.inl 400, .inr (.inr 0)] (fun st h => cm_x 100 112 [some (.inr (.inr 0))] st h) := (cm_un_eq [112] 100 3 106 _ _ _).symm.trans rfl
theorem X8_init_k10b (h : cm_H) : cm_x 100 112 [some (.inr (.inr 0))] st h = cm_pf h 2 8 13 st (fun st h => cm_x 100 115 [some (.inr (.inr 0))] st h) := (cm_un_eq [115] 100 1 112 _ _ _).symm.trans rfl
theorem X8_init_k10 (hf : cm_frs 612 Rf D) : cm_x 100 106 [some (.inr (.inr 0))] [] (cm_cs L 612 Rf D s) = cm_x 100 115 [some (.inr (.inr 0))] [] (cm_cs L 613 (cm_up Rf 0 (13 : Nat) 612) D (s + 400)) := by
  rw [X8_init_k10a, na_s (n := 400) (m := 400) hf (by omega) rfl rfl (by omega), X8_init_k10b, pf_s (by omega) (by omega) rfl]
theorem X8_init_k10f (hf : cm_frs 612 Rf D) : cm_frs 613 (cm_up Rf 0 (13 : Nat) 612) D := fr_u (fr_m (hf) (by omega)) (by omega)
def cm_RX (Rf : Nat → Int → Nat) : Nat → Int → Nat := (cm_up (cm_up (cm_up (cm_ua (cm_up (cm_up (cm_RA 322 40 (cm_up (cm_ua (cm_up (cm_ua (cm_up (cm_RA 26 40 (cm_up (cm_ua (cm_up (cm_ua (cm_up (cm_ua (cm_up (cm_up (cm_up (cm_up (cm_up (cm_up (cm_ua (cm_up Rf 0 (0 : Nat) 1) 3 (cm_rF [4])) 2 (0 : Nat) 3) 2 (8 : Nat) 5) 2 (10 : Nat) 6) 2 (11 : Nat) 7) 2 (12 : Nat) 8) 0 (2 : Nat) 2) 9 (cm_rF [400000, 400000, 400000, 400000, 400000, 10, 11, 12, 13, 14])) 0 (4 : Nat) 9) 15 (cm_rF [16, 17, 18, 19, 20, 21])) 0 (5 : Nat) 15) 22 (cm_rF [23, 24, 25])) 0 (6 : Nat) 22)) 0 (7 : Nat) 26) 309 (cm_rF [400000, 400000, 400000, 400000, 400000, 310, 311, 312, 313, 314])) 308 (1 : Nat) 309) 315 (cm_rF [316, 317, 318, 319, 320, 321])) 308 (2 : Nat) 315)) 308 (3 : Nat) 322) 0 (10 : Nat) 308) 604 (cm_rF [605, 606, 607, 608, 609, 610])) 0 (11 : Nat) 604) 0 (12 : Nat) 611) 0 (13 : Nat) 612)
theorem i_X8 (hf : cm_frs 1 Rf D) : cm_x 100 0 [some (.inr (.inr 0))] [] (cm_cs L 1 Rf D s) = cm_x 100 115 [some (.inr (.inr 0))] [] (cm_cs L 613 (cm_RX Rf) (cm_up D 0 (3 : Nat) (-1)) (s + 700 + 14  + 7 + 0 + 400 + 12 + 12 + 96 + 11 + 401 + 400 + 400 + 6000 + 400 + 11 + 12 + 12 + 12 + 96 + 96 + 13 + 4 + 126 + 126 + 126 + 3 + 40 + 10080 + 6  + 11 + 401 + 400 + 400 + 6000 + 400 + 11 + 12 + 12 + 12 + 96 + 96 + 13 + 3 + 40 + 10080 + 11 + 12 + 12 + 12 + 96 + 96 + 13 + 1 + 400)) := by
  rw [X8_init_k0 (hf), X8_init_k1 (X8_init_k0f (hf)), X8_init_k2, X8_init_k3 (X8_init_k2f (X8_init_k1f (X8_init_k0f (hf)))), X8_init_k4 (X8_init_k3f (X8_init_k2f (X8_init_k1f (X8_init_k0f (hf))))), X8_init_k5 (X8_init_k4f (X8_init_k3f (X8_init_k2f (X8_init_k1f (X8_init_k0f (hf)))))), X8_init_k6 (X8_init_k5f (X8_init_k4f (X8_init_k3f (X8_init_k2f (X8_init_k1f (X8_init_k0f (hf))))))), X8_init_k7 (X8_init_k6f (X8_init_k5f (X8_init_k4f (X8_init_k3f (X8_init_k2f (X8_init_k1f (X8_init_k0f (hf)))))))), X8_init_k8 (X8_init_k7f (X8_init_k6f (X8_init_k5f (X8_init_k4f (X8_init_k3f (X8_init_k2f (X8_init_k1f (X8_init_k0f (hf))))))))), X8_init_k9 (X8_init_k8f (X8_init_k7f (X8_init_k6f (X8_init_k5f (X8_init_k4f (X8_init_k3f (X8_init_k2f (X8_init_k1f (X8_init_k0f (hf)))))))))), X8_init_k10 (X8_init_k9f (X8_init_k8f (X8_init_k7f (X8_init_k6f (X8_init_k5f (X8_init_k4f (X8_init_k3f (X8_init_k2f (X8_init_k1f (X8_init_k0f (hf)))))))))))]
  rfl
