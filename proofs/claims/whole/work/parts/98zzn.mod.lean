/-! the model's constructor -/
variable {L k a v s : Nat} {Rf : Nat → Int → Nat} {D : Nat → Int → Int} {st : List cm_V}
theorem as_s {i x : Int} {n : Nat} {F : List cm_V → cm_H → cm_R} (ha : a < k) (he : cm_K0 L a = (1, n)) (hi : 0 ≤ i ∧ i < n) : cm_as (cm_cs L k Rf D s) 1 (.inl x :: .inl i :: .inr (.inr a) :: st) F = F st (cm_cs L k Rf (cm_up D a i x) s) := by
  show (match ((cm_Kk L k a).1 == 1 && a.blt k) with
    | true => cm_ck (0 ≤ i ∧ i < ((cm_Kk L k a).2 : Int)) (F st (cm_cs L k Rf (cm_up D a i x) s))
    | false => none) = _
  rw [Nat.blt_eq.mpr ha, K_at ha, he]
  dsimp only
  exact ck_t hi
theorem X9_k0a (h : cm_H) : cm_x 161 0 [some (.inr (.inr 613))] [] h = cm_na h 1 [.inl 10, .inr (.inr 613)] (fun st h => cm_x 161 9 [some (.inr (.inr 613))] st h) := (cm_un_eq [9] 161 5 0 _ _ _).symm.trans rfl
theorem X9_k0w0 (x : Nat) (h : cm_H) : cm_x 161 9 [some (.inr (.inr 613))] [.inr (.inr x), .inr (.inr 613)] h = cm_as h 1 [.inl 200, .inl 0, .inr (.inr x), .inr (.inr x), .inr (.inr 613)] (fun st h => cm_x 161 15 [some (.inr (.inr 613))] st h) := (cm_un_eq [15] 161 4 9 _ _ _).symm.trans rfl
theorem X9_k0w1 (x : Nat) (h : cm_H) : cm_x 161 15 [some (.inr (.inr 613))] [.inr (.inr x), .inr (.inr 613)] h = cm_as h 1 [.inl 8, .inl 1, .inr (.inr x), .inr (.inr x), .inr (.inr 613)] (fun st h => cm_x 161 20 [some (.inr (.inr 613))] st h) := (cm_un_eq [20] 161 4 15 _ _ _).symm.trans rfl
theorem X9_k0w2 (x : Nat) (h : cm_H) : cm_x 161 20 [some (.inr (.inr 613))] [.inr (.inr x), .inr (.inr 613)] h = cm_as h 1 [.inl 1, .inl 2, .inr (.inr x), .inr (.inr x), .inr (.inr 613)] (fun st h => cm_x 161 24 [some (.inr (.inr 613))] st h) := (cm_un_eq [24] 161 4 20 _ _ _).symm.trans rfl
theorem X9_k0w3 (x : Nat) (h : cm_H) : cm_x 161 24 [some (.inr (.inr 613))] [.inr (.inr x), .inr (.inr 613)] h = cm_as h 1 [.inl 2, .inl 3, .inr (.inr x), .inr (.inr x), .inr (.inr 613)] (fun st h => cm_x 161 28 [some (.inr (.inr 613))] st h) := (cm_un_eq [28] 161 4 24 _ _ _).symm.trans rfl
theorem X9_k0w4 (x : Nat) (h : cm_H) : cm_x 161 28 [some (.inr (.inr 613))] [.inr (.inr x), .inr (.inr 613)] h = cm_as h 1 [.inl 0, .inl 4, .inr (.inr x), .inr (.inr x), .inr (.inr 613)] (fun st h => cm_x 161 32 [some (.inr (.inr 613))] st h) := (cm_un_eq [32] 161 4 28 _ _ _).symm.trans rfl
theorem X9_k0w5 (x : Nat) (h : cm_H) : cm_x 161 32 [some (.inr (.inr 613))] [.inr (.inr x), .inr (.inr 613)] h = cm_as h 1 [.inl 200, .inl 5, .inr (.inr x), .inr (.inr x), .inr (.inr 613)] (fun st h => cm_x 161 38 [some (.inr (.inr 613))] st h) := (cm_un_eq [38] 161 4 32 _ _ _).symm.trans rfl
theorem X9_k0w6 (x : Nat) (h : cm_H) : cm_x 161 38 [some (.inr (.inr 613))] [.inr (.inr x), .inr (.inr 613)] h = cm_as h 1 [.inl 8, .inl 6, .inr (.inr x), .inr (.inr x), .inr (.inr 613)] (fun st h => cm_x 161 44 [some (.inr (.inr 613))] st h) := (cm_un_eq [44] 161 4 38 _ _ _).symm.trans rfl
theorem X9_k0w7 (x : Nat) (h : cm_H) : cm_x 161 44 [some (.inr (.inr 613))] [.inr (.inr x), .inr (.inr 613)] h = cm_as h 1 [.inl 1, .inl 7, .inr (.inr x), .inr (.inr x), .inr (.inr 613)] (fun st h => cm_x 161 49 [some (.inr (.inr 613))] st h) := (cm_un_eq [49] 161 4 44 _ _ _).symm.trans rfl
theorem X9_k0w8 (x : Nat) (h : cm_H) : cm_x 161 49 [some (.inr (.inr 613))] [.inr (.inr x), .inr (.inr 613)] h = cm_as h 1 [.inl 2, .inl 8, .inr (.inr x), .inr (.inr x), .inr (.inr 613)] (fun st h => cm_x 161 54 [some (.inr (.inr 613))] st h) := (cm_un_eq [54] 161 4 49 _ _ _).symm.trans rfl
theorem X9_k0w9 (x : Nat) (h : cm_H) : cm_x 161 54 [some (.inr (.inr 613))] [.inr (.inr x), .inr (.inr 613)] h = cm_as h 1 [.inl 0, .inl 9, .inr (.inr x), .inr (.inr x), .inr (.inr 613)] (fun st h => cm_x 161 59 [some (.inr (.inr 613))] st h) := (cm_un_eq [59] 161 4 54 _ _ _).symm.trans rfl
theorem X9_k0b (h : cm_H) : cm_x 161 59 [some (.inr (.inr 613))] st h = cm_pf h 2 9 1 st (fun st h => cm_x 161 62 [some (.inr (.inr 613))] st h) := (cm_un_eq [62] 161 1 59 _ _ _).symm.trans rfl
theorem X9_k0 (hf : cm_frs 614 Rf D) : cm_x 161 0 [some (.inr (.inr 613))] [] (cm_cs L 614 Rf D s) = cm_x 161 62 [some (.inr (.inr 613))] [] (cm_cs L 615 (cm_up Rf 613 (1 : Nat) 614) (cm_up (cm_up (cm_up (cm_up (cm_up (cm_up (cm_up (cm_up (cm_up (cm_up D 614 0 200) 614 1 8) 614 2 1) 614 3 2) 614 4 0) 614 5 200) 614 6 8) 614 7 1) 614 8 2) 614 9 0) (s + 10)) := by
  rw [X9_k0a, na_s (n := 10) (m := 10) hf (by omega) rfl rfl (by omega), X9_k0w0, as_s (n := 10) (by omega) rfl (by omega), X9_k0w1, as_s (n := 10) (by omega) rfl (by omega), X9_k0w2, as_s (n := 10) (by omega) rfl (by omega), X9_k0w3, as_s (n := 10) (by omega) rfl (by omega), X9_k0w4, as_s (n := 10) (by omega) rfl (by omega), X9_k0w5, as_s (n := 10) (by omega) rfl (by omega), X9_k0w6, as_s (n := 10) (by omega) rfl (by omega), X9_k0w7, as_s (n := 10) (by omega) rfl (by omega), X9_k0w8, as_s (n := 10) (by omega) rfl (by omega), X9_k0w9, as_s (n := 10) (by omega) rfl (by omega), X9_k0b, pf_s (by omega) (by omega) rfl]
theorem X9_k0f (hf : cm_frs 614 Rf D) : cm_frs 615 (cm_up Rf 613 (1 : Nat) 614) (cm_up (cm_up (cm_up (cm_up (cm_up (cm_up (cm_up (cm_up (cm_up (cm_up D 614 0 200) 614 1 8) 614 2 1) 614 3 2) 614 4 0) 614 5 200) 614 6 8) 614 7 1) 614 8 2) 614 9 0) := fr_d (fr_d (fr_d (fr_d (fr_d (fr_d (fr_d (fr_d (fr_d (fr_d (fr_u (fr_m hf (by omega)) (by omega)) (by omega)) (by omega)) (by omega)) (by omega)) (by omega)) (by omega)) (by omega)) (by omega)) (by omega)) (by omega)
theorem X9_k1a (h : cm_H) : cm_x 161 62 [some (.inr (.inr 613))] [] h = cm_na h 1 [.inl 24, .inr (.inr 613)] (fun st h => cm_x 161 67 [some (.inr (.inr 613))] st h) := (cm_un_eq [67] 161 3 62 _ _ _).symm.trans rfl
theorem X9_k1b (h : cm_H) : cm_x 161 67 [some (.inr (.inr 613))] st h = cm_pf h 2 9 2 st (fun st h => cm_x 161 70 [some (.inr (.inr 613))] st h) := (cm_un_eq [70] 161 1 67 _ _ _).symm.trans rfl
theorem X9_k1 (hf : cm_frs 615 Rf D) : cm_x 161 62 [some (.inr (.inr 613))] [] (cm_cs L 615 Rf D s) = cm_x 161 70 [some (.inr (.inr 613))] [] (cm_cs L 616 (cm_up Rf 613 (2 : Nat) 615) D (s + 24)) := by
  rw [X9_k1a, na_s (n := 24) (m := 24) hf (by omega) rfl rfl (by omega), X9_k1b, pf_s (by omega) (by omega) rfl]
theorem X9_k1f (hf : cm_frs 615 Rf D) : cm_frs 616 (cm_up Rf 613 (2 : Nat) 615) D := fr_u (fr_m hf (by omega)) (by omega)
theorem X9_k2a (h : cm_H) : cm_x 161 70 [some (.inr (.inr 613))] [] h = cm_na h 1 [.inl 2, .inr (.inr 613)] (fun st h => cm_x 161 74 [some (.inr (.inr 613))] st h) := (cm_un_eq [74] 161 3 70 _ _ _).symm.trans rfl
theorem X9_k2b (h : cm_H) : cm_x 161 74 [some (.inr (.inr 613))] st h = cm_pf h 2 9 3 st (fun st h => cm_x 161 77 [some (.inr (.inr 613))] st h) := (cm_un_eq [77] 161 1 74 _ _ _).symm.trans rfl
theorem X9_k2 (hf : cm_frs 616 Rf D) : cm_x 161 70 [some (.inr (.inr 613))] [] (cm_cs L 616 Rf D s) = cm_x 161 77 [some (.inr (.inr 613))] [] (cm_cs L 617 (cm_up Rf 613 (3 : Nat) 616) D (s + 2)) := by
  rw [X9_k2a, na_s (n := 2) (m := 2) hf (by omega) rfl rfl (by omega), X9_k2b, pf_s (by omega) (by omega) rfl]
theorem X9_k2f (hf : cm_frs 616 Rf D) : cm_frs 617 (cm_up Rf 613 (3 : Nat) 616) D := fr_u (fr_m hf (by omega)) (by omega)
theorem X9_k3a (h : cm_H) : cm_x 161 77 [some (.inr (.inr 613))] [] h = cm_na h 1 [.inl 246, .inr (.inr 613)] (fun st h => cm_x 161 83 [some (.inr (.inr 613))] st h) := (cm_un_eq [83] 161 3 77 _ _ _).symm.trans rfl
theorem X9_k3b (h : cm_H) : cm_x 161 83 [some (.inr (.inr 613))] st h = cm_pf h 2 9 4 st (fun st h => cm_x 161 86 [some (.inr (.inr 613))] st h) := (cm_un_eq [86] 161 1 83 _ _ _).symm.trans rfl
theorem X9_k3 (hf : cm_frs 617 Rf D) : cm_x 161 77 [some (.inr (.inr 613))] [] (cm_cs L 617 Rf D s) = cm_x 161 86 [some (.inr (.inr 613))] [] (cm_cs L 618 (cm_up Rf 613 (4 : Nat) 617) D (s + 246)) := by
  rw [X9_k3a, na_s (n := 246) (m := 246) hf (by omega) rfl rfl (by omega), X9_k3b, pf_s (by omega) (by omega) rfl]
theorem X9_k3f (hf : cm_frs 617 Rf D) : cm_frs 618 (cm_up Rf 613 (4 : Nat) 617) D := fr_u (fr_m hf (by omega)) (by omega)
theorem X9_k4a (h : cm_H) : cm_x 161 86 [some (.inr (.inr 613))] [] h = cm_na h 1 [.inl 246, .inr (.inr 613)] (fun st h => cm_x 161 92 [some (.inr (.inr 613))] st h) := (cm_un_eq [92] 161 3 86 _ _ _).symm.trans rfl
theorem X9_k4b (h : cm_H) : cm_x 161 92 [some (.inr (.inr 613))] st h = cm_pf h 2 9 5 st (fun st h => cm_x 161 95 [some (.inr (.inr 613))] st h) := (cm_un_eq [95] 161 1 92 _ _ _).symm.trans rfl
theorem X9_k4 (hf : cm_frs 618 Rf D) : cm_x 161 86 [some (.inr (.inr 613))] [] (cm_cs L 618 Rf D s) = cm_x 161 95 [some (.inr (.inr 613))] [] (cm_cs L 619 (cm_up Rf 613 (5 : Nat) 618) D (s + 246)) := by
  rw [X9_k4a, na_s (n := 246) (m := 246) hf (by omega) rfl rfl (by omega), X9_k4b, pf_s (by omega) (by omega) rfl]
theorem X9_k4f (hf : cm_frs 618 Rf D) : cm_frs 619 (cm_up Rf 613 (5 : Nat) 618) D := fr_u (fr_m hf (by omega)) (by omega)
theorem X9_k5a (h : cm_H) : cm_x 161 95 [some (.inr (.inr 613))] [] h = cm_na h 1 [.inl 400, .inr (.inr 613)] (fun st h => cm_x 161 101 [some (.inr (.inr 613))] st h) := (cm_un_eq [101] 161 3 95 _ _ _).symm.trans rfl
theorem X9_k5b (h : cm_H) : cm_x 161 101 [some (.inr (.inr 613))] st h = cm_pf h 2 9 6 st (fun st h => cm_x 161 104 [some (.inr (.inr 613))] st h) := (cm_un_eq [104] 161 1 101 _ _ _).symm.trans rfl
theorem X9_k5 (hf : cm_frs 619 Rf D) : cm_x 161 95 [some (.inr (.inr 613))] [] (cm_cs L 619 Rf D s) = cm_x 161 104 [some (.inr (.inr 613))] [] (cm_cs L 620 (cm_up Rf 613 (6 : Nat) 619) D (s + 400)) := by
  rw [X9_k5a, na_s (n := 400) (m := 400) hf (by omega) rfl rfl (by omega), X9_k5b, pf_s (by omega) (by omega) rfl]
theorem X9_k5f (hf : cm_frs 619 Rf D) : cm_frs 620 (cm_up Rf 613 (6 : Nat) 619) D := fr_u (fr_m hf (by omega)) (by omega)
theorem X9_k6a (h : cm_H) : cm_x 161 104 [some (.inr (.inr 613))] [] h = cm_na h 1 [.inl 6000, .inr (.inr 613)] (fun st h => cm_x 161 110 [some (.inr (.inr 613))] st h) := (cm_un_eq [110] 161 3 104 _ _ _).symm.trans rfl
theorem X9_k6b (h : cm_H) : cm_x 161 110 [some (.inr (.inr 613))] st h = cm_pf h 2 9 7 st (fun st h => cm_x 161 113 [some (.inr (.inr 613))] st h) := (cm_un_eq [113] 161 1 110 _ _ _).symm.trans rfl
theorem X9_k6 (hf : cm_frs 620 Rf D) : cm_x 161 104 [some (.inr (.inr 613))] [] (cm_cs L 620 Rf D s) = cm_x 161 113 [some (.inr (.inr 613))] [] (cm_cs L 621 (cm_up Rf 613 (7 : Nat) 620) D (s + 6000)) := by
  rw [X9_k6a, na_s (n := 6000) (m := 6000) hf (by omega) rfl rfl (by omega), X9_k6b, pf_s (by omega) (by omega) rfl]
theorem X9_k6f (hf : cm_frs 620 Rf D) : cm_frs 621 (cm_up Rf 613 (7 : Nat) 620) D := fr_u (fr_m hf (by omega)) (by omega)
theorem X9_k7a (h : cm_H) : cm_x 161 113 [some (.inr (.inr 613))] [] h = cm_na h 1 [.inl 700, .inr (.inr 613)] (fun st h => cm_x 161 119 [some (.inr (.inr 613))] st h) := (cm_un_eq [119] 161 3 113 _ _ _).symm.trans rfl
theorem X9_k7b (h : cm_H) : cm_x 161 119 [some (.inr (.inr 613))] st h = cm_pf h 2 9 8 st (fun st h => cm_x 161 122 [some (.inr (.inr 613))] st h) := (cm_un_eq [122] 161 1 119 _ _ _).symm.trans rfl
theorem X9_k7 (hf : cm_frs 621 Rf D) : cm_x 161 113 [some (.inr (.inr 613))] [] (cm_cs L 621 Rf D s) = cm_x 161 122 [some (.inr (.inr 613))] [] (cm_cs L 622 (cm_up Rf 613 (8 : Nat) 621) D (s + 700)) := by
  rw [X9_k7a, na_s (n := 700) (m := 700) hf (by omega) rfl rfl (by omega), X9_k7b, pf_s (by omega) (by omega) rfl]
theorem X9_k7f (hf : cm_frs 621 Rf D) : cm_frs 622 (cm_up Rf 613 (8 : Nat) 621) D := fr_u (fr_m hf (by omega)) (by omega)
theorem X9_k8a (h : cm_H) : cm_x 161 122 [some (.inr (.inr 613))] [] h = cm_pf h 0 9 18 [.inl (-1), .inr (.inr 613)] (fun st h => cm_x 161 127 [some (.inr (.inr 613))] st h) := (cm_un_eq [127] 161 3 122 _ _ _).symm.trans rfl
theorem X9_k8 : cm_x 161 122 [some (.inr (.inr 613))] [] (cm_cs L 622 Rf D s) = cm_x 161 127 [some (.inr (.inr 613))] [] (cm_cs L 622 Rf (cm_up D 613 (18 : Nat) (-1)) s) := by
  rw [X9_k8a, pi_s (by omega) rfl]
theorem X9_k8f (hf : cm_frs 622 Rf D) : cm_frs 622 Rf (cm_up D 613 (18 : Nat) (-1)) := fr_d hf (by omega)
theorem X9_k9a (h : cm_H) : cm_x 161 127 [some (.inr (.inr 613))] [] h = cm_pf h 0 9 21 [.inl (-1), .inr (.inr 613)] (fun st h => cm_x 161 132 [some (.inr (.inr 613))] st h) := (cm_un_eq [132] 161 3 127 _ _ _).symm.trans rfl
theorem X9_k9 : cm_x 161 127 [some (.inr (.inr 613))] [] (cm_cs L 622 Rf D s) = cm_x 161 132 [some (.inr (.inr 613))] [] (cm_cs L 622 Rf (cm_up D 613 (21 : Nat) (-1)) s) := by
  rw [X9_k9a, pi_s (by omega) rfl]
theorem X9_k9f (hf : cm_frs 622 Rf D) : cm_frs 622 Rf (cm_up D 613 (21 : Nat) (-1)) := fr_d hf (by omega)
theorem X9_k10a (h : cm_H) : cm_x 161 132 [some (.inr (.inr 613))] [] h = cm_na h 1 [.inl 130, .inr (.inr 613)] (fun st h => cm_x 161 138 [some (.inr (.inr 613))] st h) := (cm_un_eq [138] 161 3 132 _ _ _).symm.trans rfl
theorem X9_k10b (h : cm_H) : cm_x 161 138 [some (.inr (.inr 613))] st h = cm_pf h 2 9 22 st (fun st h => cm_x 161 141 [some (.inr (.inr 613))] st h) := (cm_un_eq [141] 161 1 138 _ _ _).symm.trans rfl
theorem X9_k10 (hf : cm_frs 622 Rf D) : cm_x 161 132 [some (.inr (.inr 613))] [] (cm_cs L 622 Rf D s) = cm_x 161 141 [some (.inr (.inr 613))] [] (cm_cs L 623 (cm_up Rf 613 (22 : Nat) 622) D (s + 130)) := by
  rw [X9_k10a, na_s (n := 130) (m := 130) hf (by omega) rfl rfl (by omega), X9_k10b, pf_s (by omega) (by omega) rfl]
theorem X9_k10f (hf : cm_frs 622 Rf D) : cm_frs 623 (cm_up Rf 613 (22 : Nat) 622) D := fr_u (fr_m hf (by omega)) (by omega)
theorem X9_k11a (h : cm_H) : cm_x 161 141 [some (.inr (.inr 613))] [] h = cm_na h 1 [.inl 130, .inr (.inr 613)] (fun st h => cm_x 161 147 [some (.inr (.inr 613))] st h) := (cm_un_eq [147] 161 3 141 _ _ _).symm.trans rfl
theorem X9_k11b (h : cm_H) : cm_x 161 147 [some (.inr (.inr 613))] st h = cm_pf h 2 9 23 st (fun st h => cm_x 161 150 [some (.inr (.inr 613))] st h) := (cm_un_eq [150] 161 1 147 _ _ _).symm.trans rfl
theorem X9_k11 (hf : cm_frs 623 Rf D) : cm_x 161 141 [some (.inr (.inr 613))] [] (cm_cs L 623 Rf D s) = cm_x 161 150 [some (.inr (.inr 613))] [] (cm_cs L 624 (cm_up Rf 613 (23 : Nat) 623) D (s + 130)) := by
  rw [X9_k11a, na_s (n := 130) (m := 130) hf (by omega) rfl rfl (by omega), X9_k11b, pf_s (by omega) (by omega) rfl]
theorem X9_k11f (hf : cm_frs 623 Rf D) : cm_frs 624 (cm_up Rf 613 (23 : Nat) 623) D := fr_u (fr_m hf (by omega)) (by omega)
theorem X9_k12a (h : cm_H) : cm_x 161 150 [some (.inr (.inr 613))] [] h = cm_na h 1 [.inl 130, .inr (.inr 613)] (fun st h => cm_x 161 156 [some (.inr (.inr 613))] st h) := (cm_un_eq [156] 161 3 150 _ _ _).symm.trans rfl
theorem X9_k12b (h : cm_H) : cm_x 161 156 [some (.inr (.inr 613))] st h = cm_pf h 2 9 24 st (fun st h => cm_x 161 159 [some (.inr (.inr 613))] st h) := (cm_un_eq [159] 161 1 156 _ _ _).symm.trans rfl
theorem X9_k12 (hf : cm_frs 624 Rf D) : cm_x 161 150 [some (.inr (.inr 613))] [] (cm_cs L 624 Rf D s) = cm_x 161 159 [some (.inr (.inr 613))] [] (cm_cs L 625 (cm_up Rf 613 (24 : Nat) 624) D (s + 130)) := by
  rw [X9_k12a, na_s (n := 130) (m := 130) hf (by omega) rfl rfl (by omega), X9_k12b, pf_s (by omega) (by omega) rfl]
theorem X9_k12f (hf : cm_frs 624 Rf D) : cm_frs 625 (cm_up Rf 613 (24 : Nat) 624) D := fr_u (fr_m hf (by omega)) (by omega)
theorem X9_k13a (h : cm_H) : cm_x 161 159 [some (.inr (.inr 613))] [] h = cm_na h 2 [.inl 400, .inr (.inr 613)] (fun st h => cm_x 161 165 [some (.inr (.inr 613))] st h) := (cm_un_eq [165] 161 3 159 _ _ _).symm.trans rfl
theorem X9_k13b (h : cm_H) : cm_x 161 165 [some (.inr (.inr 613))] st h = cm_pf h 2 9 28 st (fun st h => cm_x 161 168 [some (.inr (.inr 613))] st h) := (cm_un_eq [168] 161 1 165 _ _ _).symm.trans rfl
theorem X9_k13 (hf : cm_frs 625 Rf D) : cm_x 161 159 [some (.inr (.inr 613))] [] (cm_cs L 625 Rf D s) = cm_x 161 168 [some (.inr (.inr 613))] [] (cm_cs L 626 (cm_up Rf 613 (28 : Nat) 625) D (s + 400)) := by
  rw [X9_k13a, na_s (n := 400) (m := 400) hf (by omega) rfl rfl (by omega), X9_k13b, pf_s (by omega) (by omega) rfl]
theorem X9_k13f (hf : cm_frs 625 Rf D) : cm_frs 626 (cm_up Rf 613 (28 : Nat) 625) D := fr_u (fr_m hf (by omega)) (by omega)
theorem X9_k14a (h : cm_H) : cm_x 161 168 [some (.inr (.inr 613))] [] h = cm_na h 1 [.inl 9840, .inr (.inr 613)] (fun st h => cm_x 161 174 [some (.inr (.inr 613))] st h) := (cm_un_eq [174] 161 3 168 _ _ _).symm.trans rfl
theorem X9_k14b (h : cm_H) : cm_x 161 174 [some (.inr (.inr 613))] st h = cm_pf h 2 9 30 st (fun st h => cm_x 161 177 [some (.inr (.inr 613))] st h) := (cm_un_eq [177] 161 1 174 _ _ _).symm.trans rfl
theorem X9_k14 (hf : cm_frs 626 Rf D) : cm_x 161 168 [some (.inr (.inr 613))] [] (cm_cs L 626 Rf D s) = cm_x 161 177 [some (.inr (.inr 613))] [] (cm_cs L 627 (cm_up Rf 613 (30 : Nat) 626) D (s + 9840)) := by
  rw [X9_k14a, na_s (n := 9840) (m := 9840) hf (by omega) rfl rfl (by omega), X9_k14b, pf_s (by omega) (by omega) rfl]
theorem X9_k14f (hf : cm_frs 626 Rf D) : cm_frs 627 (cm_up Rf 613 (30 : Nat) 626) D := fr_u (fr_m hf (by omega)) (by omega)
theorem X9_k15a (h : cm_H) : cm_x 161 177 [some (.inr (.inr 613))] [] h = cm_na h 1 [.inl 246, .inr (.inr 613)] (fun st h => cm_x 161 183 [some (.inr (.inr 613))] st h) := (cm_un_eq [183] 161 3 177 _ _ _).symm.trans rfl
theorem X9_k15b (h : cm_H) : cm_x 161 183 [some (.inr (.inr 613))] st h = cm_pf h 2 9 32 st (fun st h => cm_x 161 186 [some (.inr (.inr 613))] st h) := (cm_un_eq [186] 161 1 183 _ _ _).symm.trans rfl
theorem X9_k15 (hf : cm_frs 627 Rf D) : cm_x 161 177 [some (.inr (.inr 613))] [] (cm_cs L 627 Rf D s) = cm_x 161 186 [some (.inr (.inr 613))] [] (cm_cs L 628 (cm_up Rf 613 (32 : Nat) 627) D (s + 246)) := by
  rw [X9_k15a, na_s (n := 246) (m := 246) hf (by omega) rfl rfl (by omega), X9_k15b, pf_s (by omega) (by omega) rfl]
theorem X9_k15f (hf : cm_frs 627 Rf D) : cm_frs 628 (cm_up Rf 613 (32 : Nat) 627) D := fr_u (fr_m hf (by omega)) (by omega)
theorem X9_k16a (h : cm_H) : cm_x 161 186 [some (.inr (.inr 613))] [] h = cm_na h 1 [.inl 246, .inr (.inr 613)] (fun st h => cm_x 161 192 [some (.inr (.inr 613))] st h) := (cm_un_eq [192] 161 3 186 _ _ _).symm.trans rfl
theorem X9_k16b (h : cm_H) : cm_x 161 192 [some (.inr (.inr 613))] st h = cm_pf h 2 9 35 st (fun st h => cm_x 161 195 [some (.inr (.inr 613))] st h) := (cm_un_eq [195] 161 1 192 _ _ _).symm.trans rfl
theorem X9_k16 (hf : cm_frs 628 Rf D) : cm_x 161 186 [some (.inr (.inr 613))] [] (cm_cs L 628 Rf D s) = cm_x 161 195 [some (.inr (.inr 613))] [] (cm_cs L 629 (cm_up Rf 613 (35 : Nat) 628) D (s + 246)) := by
  rw [X9_k16a, na_s (n := 246) (m := 246) hf (by omega) rfl rfl (by omega), X9_k16b, pf_s (by omega) (by omega) rfl]
theorem X9_k16f (hf : cm_frs 628 Rf D) : cm_frs 629 (cm_up Rf 613 (35 : Nat) 628) D := fr_u (fr_m hf (by omega)) (by omega)
theorem X9_k17a (h : cm_H) : cm_x 161 195 [some (.inr (.inr 613))] [] h = cm_na h 1 [.inl 9840, .inr (.inr 613)] (fun st h => cm_x 161 201 [some (.inr (.inr 613))] st h) := (cm_un_eq [201] 161 3 195 _ _ _).symm.trans rfl
theorem X9_k17b (h : cm_H) : cm_x 161 201 [some (.inr (.inr 613))] st h = cm_pf h 2 9 36 st (fun st h => cm_x 161 204 [some (.inr (.inr 613))] st h) := (cm_un_eq [204] 161 1 201 _ _ _).symm.trans rfl
theorem X9_k17 (hf : cm_frs 629 Rf D) : cm_x 161 195 [some (.inr (.inr 613))] [] (cm_cs L 629 Rf D s) = cm_x 161 204 [some (.inr (.inr 613))] [] (cm_cs L 630 (cm_up Rf 613 (36 : Nat) 629) D (s + 9840)) := by
  rw [X9_k17a, na_s (n := 9840) (m := 9840) hf (by omega) rfl rfl (by omega), X9_k17b, pf_s (by omega) (by omega) rfl]
theorem X9_k17f (hf : cm_frs 629 Rf D) : cm_frs 630 (cm_up Rf 613 (36 : Nat) 629) D := fr_u (fr_m hf (by omega)) (by omega)
theorem X9_k18a (h : cm_H) : cm_x 161 204 [some (.inr (.inr 613))] [] h = cm_na h 1 [.inl 400, .inr (.inr 613)] (fun st h => cm_x 161 210 [some (.inr (.inr 613))] st h) := (cm_un_eq [210] 161 3 204 _ _ _).symm.trans rfl
theorem X9_k18b (h : cm_H) : cm_x 161 210 [some (.inr (.inr 613))] st h = cm_pf h 2 9 37 st (fun st h => cm_x 161 213 [some (.inr (.inr 613))] st h) := (cm_un_eq [213] 161 1 210 _ _ _).symm.trans rfl
theorem X9_k18 (hf : cm_frs 630 Rf D) : cm_x 161 204 [some (.inr (.inr 613))] [] (cm_cs L 630 Rf D s) = cm_x 161 213 [some (.inr (.inr 613))] [] (cm_cs L 631 (cm_up Rf 613 (37 : Nat) 630) D (s + 400)) := by
  rw [X9_k18a, na_s (n := 400) (m := 400) hf (by omega) rfl rfl (by omega), X9_k18b, pf_s (by omega) (by omega) rfl]
theorem X9_k18f (hf : cm_frs 630 Rf D) : cm_frs 631 (cm_up Rf 613 (37 : Nat) 630) D := fr_u (fr_m hf (by omega)) (by omega)
theorem X9_k19a (h : cm_H) : cm_x 161 213 [some (.inr (.inr 613))] [] h = cm_na h 1 [.inl 6000, .inr (.inr 613)] (fun st h => cm_x 161 219 [some (.inr (.inr 613))] st h) := (cm_un_eq [219] 161 3 213 _ _ _).symm.trans rfl
theorem X9_k19b (h : cm_H) : cm_x 161 219 [some (.inr (.inr 613))] st h = cm_pf h 2 9 38 st (fun st h => cm_x 161 222 [some (.inr (.inr 613))] st h) := (cm_un_eq [222] 161 1 219 _ _ _).symm.trans rfl
theorem X9_k19 (hf : cm_frs 631 Rf D) : cm_x 161 213 [some (.inr (.inr 613))] [] (cm_cs L 631 Rf D s) = cm_x 161 222 [some (.inr (.inr 613))] [] (cm_cs L 632 (cm_up Rf 613 (38 : Nat) 631) D (s + 6000)) := by
  rw [X9_k19a, na_s (n := 6000) (m := 6000) hf (by omega) rfl rfl (by omega), X9_k19b, pf_s (by omega) (by omega) rfl]
theorem X9_k19f (hf : cm_frs 631 Rf D) : cm_frs 632 (cm_up Rf 613 (38 : Nat) 631) D := fr_u (fr_m hf (by omega)) (by omega)
theorem X9_k20a (h : cm_H) : cm_x 161 222 [some (.inr (.inr 613))] [] h = cm_na h 1 [.inl 2, .inr (.inr 613)] (fun st h => cm_x 161 226 [some (.inr (.inr 613))] st h) := (cm_un_eq [226] 161 3 222 _ _ _).symm.trans rfl
theorem X9_k20b (h : cm_H) : cm_x 161 226 [some (.inr (.inr 613))] st h = cm_pf h 2 9 39 st (fun st h => cm_x 161 229 [some (.inr (.inr 613))] st h) := (cm_un_eq [229] 161 1 226 _ _ _).symm.trans rfl
theorem X9_k20 (hf : cm_frs 632 Rf D) : cm_x 161 222 [some (.inr (.inr 613))] [] (cm_cs L 632 Rf D s) = cm_x 161 229 [some (.inr (.inr 613))] [] (cm_cs L 633 (cm_up Rf 613 (39 : Nat) 632) D (s + 2)) := by
  rw [X9_k20a, na_s (n := 2) (m := 2) hf (by omega) rfl rfl (by omega), X9_k20b, pf_s (by omega) (by omega) rfl]
theorem X9_k20f (hf : cm_frs 632 Rf D) : cm_frs 633 (cm_up Rf 613 (39 : Nat) 632) D := fr_u (fr_m hf (by omega)) (by omega)
theorem RM_eq : (cm_up (cm_up (cm_up (cm_up (cm_up (cm_up (cm_up (cm_up (cm_up (cm_up (cm_up (cm_up (cm_up (cm_up (cm_up (cm_up (cm_up (cm_up (cm_up (cm_R6 1) 613 (1 : Nat) 614) 613 (2 : Nat) 615) 613 (3 : Nat) 616) 613 (4 : Nat) 617) 613 (5 : Nat) 618) 613 (6 : Nat) 619) 613 (7 : Nat) 620) 613 (8 : Nat) 621) 613 (22 : Nat) 622) 613 (23 : Nat) 623) 613 (24 : Nat) 624) 613 (28 : Nat) 625) 613 (30 : Nat) 626) 613 (32 : Nat) 627) 613 (35 : Nat) 628) 613 (36 : Nat) 629) 613 (37 : Nat) 630) 613 (38 : Nat) 631) 613 (39 : Nat) 632) = cm_R0 := by
  funext b
  by_cases h : b = 613
  · subst h
    have e0 : cm_R6 1 613 = cm_rF [] := rF_e.symm
    simp only [up_sm]
    rw [e0, u1_l (l2 := [400000, 614]) (Nat.le_of_ble_eq_true rfl) rfl, u1_l (l2 := [400000, 614, 615]) (Nat.le_of_ble_eq_true rfl) rfl, u1_l (l2 := [400000, 614, 615, 616]) (Nat.le_of_ble_eq_true rfl) rfl, u1_l (l2 := [400000, 614, 615, 616, 617]) (Nat.le_of_ble_eq_true rfl) rfl, u1_l (l2 := [400000, 614, 615, 616, 617, 618]) (Nat.le_of_ble_eq_true rfl) rfl, u1_l (l2 := [400000, 614, 615, 616, 617, 618, 619]) (Nat.le_of_ble_eq_true rfl) rfl, u1_l (l2 := [400000, 614, 615, 616, 617, 618, 619, 620]) (Nat.le_of_ble_eq_true rfl) rfl, u1_l (l2 := [400000, 614, 615, 616, 617, 618, 619, 620, 621]) (Nat.le_of_ble_eq_true rfl) rfl, u1_l (l2 := [400000, 614, 615, 616, 617, 618, 619, 620, 621, 400000, 400000, 400000, 400000, 400000, 400000, 400000, 400000, 400000, 400000, 400000, 400000, 400000, 622]) (Nat.le_of_ble_eq_true rfl) rfl, u1_l (l2 := [400000, 614, 615, 616, 617, 618, 619, 620, 621, 400000, 400000, 400000, 400000, 400000, 400000, 400000, 400000, 400000, 400000, 400000, 400000, 400000, 622, 623]) (Nat.le_of_ble_eq_true rfl) rfl, u1_l (l2 := [400000, 614, 615, 616, 617, 618, 619, 620, 621, 400000, 400000, 400000, 400000, 400000, 400000, 400000, 400000, 400000, 400000, 400000, 400000, 400000, 622, 623, 624]) (Nat.le_of_ble_eq_true rfl) rfl, u1_l (l2 := [400000, 614, 615, 616, 617, 618, 619, 620, 621, 400000, 400000, 400000, 400000, 400000, 400000, 400000, 400000, 400000, 400000, 400000, 400000, 400000, 622, 623, 624, 400000, 400000, 400000, 625]) (Nat.le_of_ble_eq_true rfl) rfl, u1_l (l2 := [400000, 614, 615, 616, 617, 618, 619, 620, 621, 400000, 400000, 400000, 400000, 400000, 400000, 400000, 400000, 400000, 400000, 400000, 400000, 400000, 622, 623, 624, 400000, 400000, 400000, 625, 400000, 626]) (Nat.le_of_ble_eq_true rfl) rfl, u1_l (l2 := [400000, 614, 615, 616, 617, 618, 619, 620, 621, 400000, 400000, 400000, 400000, 400000, 400000, 400000, 400000, 400000, 400000, 400000, 400000, 400000, 622, 623, 624, 400000, 400000, 400000, 625, 400000, 626, 400000, 627]) (Nat.le_of_ble_eq_true rfl) rfl, u1_l (l2 := [400000, 614, 615, 616, 617, 618, 619, 620, 621, 400000, 400000, 400000, 400000, 400000, 400000, 400000, 400000, 400000, 400000, 400000, 400000, 400000, 622, 623, 624, 400000, 400000, 400000, 625, 400000, 626, 400000, 627, 400000, 400000, 628]) (Nat.le_of_ble_eq_true rfl) rfl, u1_l (l2 := [400000, 614, 615, 616, 617, 618, 619, 620, 621, 400000, 400000, 400000, 400000, 400000, 400000, 400000, 400000, 400000, 400000, 400000, 400000, 400000, 622, 623, 624, 400000, 400000, 400000, 625, 400000, 626, 400000, 627, 400000, 400000, 628, 629]) (Nat.le_of_ble_eq_true rfl) rfl, u1_l (l2 := [400000, 614, 615, 616, 617, 618, 619, 620, 621, 400000, 400000, 400000, 400000, 400000, 400000, 400000, 400000, 400000, 400000, 400000, 400000, 400000, 622, 623, 624, 400000, 400000, 400000, 625, 400000, 626, 400000, 627, 400000, 400000, 628, 629, 630]) (Nat.le_of_ble_eq_true rfl) rfl, u1_l (l2 := [400000, 614, 615, 616, 617, 618, 619, 620, 621, 400000, 400000, 400000, 400000, 400000, 400000, 400000, 400000, 400000, 400000, 400000, 400000, 400000, 622, 623, 624, 400000, 400000, 400000, 625, 400000, 626, 400000, 627, 400000, 400000, 628, 629, 630, 631]) (Nat.le_of_ble_eq_true rfl) rfl, u1_l (l2 := [400000, 614, 615, 616, 617, 618, 619, 620, 621, 400000, 400000, 400000, 400000, 400000, 400000, 400000, 400000, 400000, 400000, 400000, 400000, 400000, 622, 623, 624, 400000, 400000, 400000, 625, 400000, 626, 400000, 627, 400000, 400000, 628, 629, 630, 631, 632]) (Nat.le_of_ble_eq_true rfl) rfl]
    rfl
  · simp (disch := omega) only [up_rw]
    unfold cm_R6
    by_cases h3 : b = 3
    · rw [if_pos h3, h3]; rfl
    · rw [if_neg h3]
      by_cases h6 : b < 613
      · rw [if_pos h6]
      · rw [if_neg h6]
        unfold cm_R0
        rw [if_neg (by omega), if_neg (by omega), if_neg (by omega), if_neg (by omega)]
        by_cases h7 : b < 634
        · have hb : b = 614 ∨ b = 615 ∨ b = 616 ∨ b = 617 ∨ b = 618 ∨ b = 619 ∨ b = 620 ∨ b = 621 ∨ b = 622 ∨ b = 623 ∨ b = 624 ∨ b = 625 ∨ b = 626 ∨ b = 627 ∨ b = 628 ∨ b = 629 ∨ b = 630 ∨ b = 631 ∨ b = 632 ∨ b = 633 := by omega
          rcases hb with h | h | h | h | h | h | h | h | h | h | h | h | h | h | h | h | h | h | h | h <;> (subst h; exact rF_e.symm)
        · have e : cm_rC.getD (b - 604) [] = [] := by
            rw [List.getD_eq_getElem?_getD, List.getElem?_eq_none (by show 30 ≤ b - 604; omega)]
            rfl
          rw [e, rF_e]
def cm_DM (D : Nat → Int → Int) : Nat → Int → Int := (cm_up (cm_up (cm_up (cm_up (cm_up (cm_up (cm_up (cm_up (cm_up (cm_up (cm_up (cm_up D 614 0 200) 614 1 8) 614 2 1) 614 3 2) 614 4 0) 614 5 200) 614 6 8) 614 7 1) 614 8 2) 614 9 0) 613 (18 : Nat) (-1)) 613 (21 : Nat) (-1))
theorem i_X9a (hf : cm_frs 614 Rf D) : cm_x 161 0 [some (.inr (.inr 613))] [] (cm_cs L 614 Rf D s) = cm_x 161 229 [some (.inr (.inr 613))] [] (cm_cs L 633 (cm_up (cm_up (cm_up (cm_up (cm_up (cm_up (cm_up (cm_up (cm_up (cm_up (cm_up (cm_up (cm_up (cm_up (cm_up (cm_up (cm_up (cm_up (cm_up Rf 613 (1 : Nat) 614) 613 (2 : Nat) 615) 613 (3 : Nat) 616) 613 (4 : Nat) 617) 613 (5 : Nat) 618) 613 (6 : Nat) 619) 613 (7 : Nat) 620) 613 (8 : Nat) 621) 613 (22 : Nat) 622) 613 (23 : Nat) 623) 613 (24 : Nat) 624) 613 (28 : Nat) 625) 613 (30 : Nat) 626) 613 (32 : Nat) 627) 613 (35 : Nat) 628) 613 (36 : Nat) 629) 613 (37 : Nat) 630) 613 (38 : Nat) 631) 613 (39 : Nat) 632) (cm_DM D) (s + 10 + 24 + 2 + 246 + 246 + 400 + 6000 + 700 + 130 + 130 + 130 + 400 + 9840 + 246 + 246 + 9840 + 400 + 6000 + 2)) := by
  unfold cm_DM
  rw [X9_k0 (hf), X9_k1 (X9_k0f (hf)), X9_k2 (X9_k1f (X9_k0f (hf))), X9_k3 (X9_k2f (X9_k1f (X9_k0f (hf)))), X9_k4 (X9_k3f (X9_k2f (X9_k1f (X9_k0f (hf))))), X9_k5 (X9_k4f (X9_k3f (X9_k2f (X9_k1f (X9_k0f (hf)))))), X9_k6 (X9_k5f (X9_k4f (X9_k3f (X9_k2f (X9_k1f (X9_k0f (hf))))))), X9_k7 (X9_k6f (X9_k5f (X9_k4f (X9_k3f (X9_k2f (X9_k1f (X9_k0f (hf)))))))), X9_k8, X9_k9, X9_k10 (X9_k9f (X9_k8f (X9_k7f (X9_k6f (X9_k5f (X9_k4f (X9_k3f (X9_k2f (X9_k1f (X9_k0f (hf))))))))))), X9_k11 (X9_k10f (X9_k9f (X9_k8f (X9_k7f (X9_k6f (X9_k5f (X9_k4f (X9_k3f (X9_k2f (X9_k1f (X9_k0f (hf)))))))))))), X9_k12 (X9_k11f (X9_k10f (X9_k9f (X9_k8f (X9_k7f (X9_k6f (X9_k5f (X9_k4f (X9_k3f (X9_k2f (X9_k1f (X9_k0f (hf))))))))))))), X9_k13 (X9_k12f (X9_k11f (X9_k10f (X9_k9f (X9_k8f (X9_k7f (X9_k6f (X9_k5f (X9_k4f (X9_k3f (X9_k2f (X9_k1f (X9_k0f (hf)))))))))))))), X9_k14 (X9_k13f (X9_k12f (X9_k11f (X9_k10f (X9_k9f (X9_k8f (X9_k7f (X9_k6f (X9_k5f (X9_k4f (X9_k3f (X9_k2f (X9_k1f (X9_k0f (hf))))))))))))))), X9_k15 (X9_k14f (X9_k13f (X9_k12f (X9_k11f (X9_k10f (X9_k9f (X9_k8f (X9_k7f (X9_k6f (X9_k5f (X9_k4f (X9_k3f (X9_k2f (X9_k1f (X9_k0f (hf)))))))))))))))), X9_k16 (X9_k15f (X9_k14f (X9_k13f (X9_k12f (X9_k11f (X9_k10f (X9_k9f (X9_k8f (X9_k7f (X9_k6f (X9_k5f (X9_k4f (X9_k3f (X9_k2f (X9_k1f (X9_k0f (hf))))))))))))))))), X9_k17 (X9_k16f (X9_k15f (X9_k14f (X9_k13f (X9_k12f (X9_k11f (X9_k10f (X9_k9f (X9_k8f (X9_k7f (X9_k6f (X9_k5f (X9_k4f (X9_k3f (X9_k2f (X9_k1f (X9_k0f (hf)))))))))))))))))), X9_k18 (X9_k17f (X9_k16f (X9_k15f (X9_k14f (X9_k13f (X9_k12f (X9_k11f (X9_k10f (X9_k9f (X9_k8f (X9_k7f (X9_k6f (X9_k5f (X9_k4f (X9_k3f (X9_k2f (X9_k1f (X9_k0f (hf))))))))))))))))))), X9_k19 (X9_k18f (X9_k17f (X9_k16f (X9_k15f (X9_k14f (X9_k13f (X9_k12f (X9_k11f (X9_k10f (X9_k9f (X9_k8f (X9_k7f (X9_k6f (X9_k5f (X9_k4f (X9_k3f (X9_k2f (X9_k1f (X9_k0f (hf)))))))))))))))))))), X9_k20 (X9_k19f (X9_k18f (X9_k17f (X9_k16f (X9_k15f (X9_k14f (X9_k13f (X9_k12f (X9_k11f (X9_k10f (X9_k9f (X9_k8f (X9_k7f (X9_k6f (X9_k5f (X9_k4f (X9_k3f (X9_k2f (X9_k1f (X9_k0f (hf)))))))))))))))))))))]
theorem s_X9 : s + 10 + 24 + 2 + 246 + 246 + 400 + 6000 + 700 + 130 + 130 + 130 + 400 + 9840 + 246 + 246 + 9840 + 400 + 6000 + 2 = s + 34992 := by omega
theorem i_X9 (hf : cm_frs 614 (cm_R6 1) D) : cm_x 161 0 [some (.inr (.inr 613))] [] (cm_cs L 614 (cm_R6 1) D s) = cm_x 161 229 [some (.inr (.inr 613))] [] (cm_cs L 633 cm_R0 (cm_DM D) (s + 34992)) := by
  have h := i_X9a (L := L) (s := s) hf
  rw [RM_eq] at h
  have e : ∀ n m : Nat, n = m → cm_x 161 229 [some (.inr (.inr 613))] [] (cm_cs L 633 cm_R0 (cm_DM D) n) = cm_x 161 229 [some (.inr (.inr 613))] [] (cm_cs L 633 cm_R0 (cm_DM D) m) := fun n m z => by rw [z]
  exact h.trans (e _ _ s_X9)
