/-! the contents of a writing: runs of both -/
variable {D E : Nat → Int → Int} {X : cm_X} {K B K' B' : Int → Int} {h pk t : Int} {S : Nat → Int → Int} {r : Int → Int}
theorem nm_B {v : Int} (hv : cNm D v ≠ -1) : (0 ≤ cNm D v ∧ cNm D v < 12) ∧ D 16 (cNm D v) = v := by
  unfold cNm at *
  rcases fnd_spec (p := fun n => decide (D 16 n = v)) (d := -1) (k := 12) (i := 0) with ⟨j, a, b, c, d, -⟩ | ⟨d, -⟩
  · rw [d]
    exact ⟨⟨a, by omega⟩, of_decide_eq_true c⟩
  · exact absurd d hv
theorem toN_s {c : Int} (h0 : 0 ≤ c) : (c + 1).toNat = c.toNat + 1 := by omega
theorem ev_addFile {L : List CT} {F : Nat → Int → Int} (hF : cHol F L) (fr : ∀ x : Nat, x < 22 ∨ 26 ≤ x → F x = D x) {n : Int} (n0 : 0 ≤ n) (n1 : n < 12) (l0 : 0 ≤ D 17 n) (l1 : D 17 n ≤ 8) (hl : L.length + 9 ≤ 126) : ∃ F', cm_x 7 0 [some (.inr (.inr 22)), some (.inr (.inr 15)), some (.inl (n)), none] [] (cm_hp F X) = some (.inl none, cm_hp F' X) ∧ cHol F' (L ++ pfl (stt D 15) n) ∧ ∀ x : Nat, x < 22 ∨ 26 ≤ x → F' x = D x := by
  obtain ⟨G, L1, P1, P2⟩ := lp_inv (X := fun c G => cm_x 7 2 [some (.inr (.inr 22)), some (.inr (.inr 15)), some (.inl (n)), some (.inl (c))] [] (cm_hp G X)) (P := fun c G => cHol G (L ++ pcs (stt D 15) n c.toNat) ∧ ∀ x : Nat, x < 22 ∨ 26 ≤ x → G x = D x) (lo := 0) (hi := D 17 n) (fun c G c0 c1 hP => by
    obtain ⟨p1, p2⟩ := hP
    have e2 : cm_wr (c + 1) = c + 1 := cm_wr_id (by omega) (by omega)
    have hlen : (L ++ pcs (stt D 15) n c.toNat).length < 126 := by
      have := pcs_len (S := stt D 15) n c.toNat
      rw [List.length_append]
      omega
    have e19 : G 19 = D 19 := p2 19 (by omega)
    have ec : ((c.toNat : Nat) : Int) = c := by omega
    by_cases hq : D 19 (n * 8 + c) = -1
    · obtain ⟨G', g1, g2, g3⟩ := ev_add (X := X) p1 hlen 3 n c
      refine ⟨G', ?_, ?_, fun x hx => by rw [g3 x hx, p2 x hx]⟩
      · show cm_x 7 2 [some (.inr (.inr 22)), some (.inr (.inr 15)), some (.inl (n)), some (.inl (c))] [] (cm_hp G X) = cm_x 7 2 [some (.inr (.inr 22)), some (.inr (.inr 15)), some (.inl (n)), some (.inl (c + 1))] [] (cm_hp G' X)
        rw [sg_X1_addFile_2, ck_t (by omega), p2 17 (by omega), if_pos c1, ev_blk n0 n1 c0 (by omega), aft_v, sg_X1_addFile_18, e19, if_pos hq, g1, aft_n, sg_X1_addFile_29, e2]
      · show cHol G' (L ++ pcs (stt D 15) n (c + 1).toNat)
        rw [toN_s c0]
        unfold pcs
        have hq' : stt D 15 4 (n * 8 + ((c.toNat : Nat) : Int)) = -1 := by rw [ec]; exact hq
        rw [if_pos hq', ec, ← List.append_assoc]
        exact g2
    · refine ⟨G, ?_, ?_, p2⟩
      · show cm_x 7 2 [some (.inr (.inr 22)), some (.inr (.inr 15)), some (.inl (n)), some (.inl (c))] [] (cm_hp G X) = cm_x 7 2 [some (.inr (.inr 22)), some (.inr (.inr 15)), some (.inl (n)), some (.inl (c + 1))] [] (cm_hp G X)
        rw [sg_X1_addFile_2, ck_t (by omega), p2 17 (by omega), if_pos c1, ev_blk n0 n1 c0 (by omega), aft_v, sg_X1_addFile_18, e19, if_neg hq, sg_X1_addFile_29, e2]
      · show cHol G (L ++ pcs (stt D 15) n (c + 1).toNat)
        rw [toN_s c0]
        unfold pcs
        have hq' : ¬ stt D 15 4 (n * 8 + ((c.toNat : Nat) : Int)) = -1 := by rw [ec]; exact hq
        rw [if_neg hq', List.append_nil]
        exact p1) F l0 ⟨by show cHol F (L ++ []); rw [List.append_nil]; exact hF, fr⟩
  have L1 : cm_x 7 2 [some (.inr (.inr 22)), some (.inr (.inr 15)), some (.inl (n)), some (.inl (0))] [] (cm_hp F X) = cm_x 7 2 [some (.inr (.inr 22)), some (.inr (.inr 15)), some (.inl (n)), some (.inl (D 17 n))] [] (cm_hp G X) := L1
  have hlen : (L ++ pcs (stt D 15) n (D 17 n).toNat).length < 126 := by
    have := pcs_len (S := stt D 15) n (D 17 n).toNat
    rw [List.length_append]
    omega
  obtain ⟨G', g1, g2, g3⟩ := ev_add (X := X) P1 hlen 4 n (-1)
  refine ⟨G', ?_, ?_, fun x hx => by rw [g3 x hx, P2 x hx]⟩
  · rw [sg_X1_addFile_0, L1, sg_X1_addFile_2, ck_t (by omega), P2 17 (by omega), if_neg (by omega), g1, aft_n, sg_X1_addFile_42]
  · unfold pfl
    rw [← List.append_assoc]
    exact g2
def pad (S : Nat → Int → Int) (N : Int → Int) (pk : Int) : Nat := (pk * pkB pk ((pl0 S N).length + 1) - (pl0 S N).length - 1).toNat
def pl (S : Nat → Int → Int) (N : Int → Int) (pk : Int) : List CT := pl0 S N ++ List.replicate (pad S N pk) (2, -1, -1) ++ [(6, -1, -1)]
theorem pad_b {N : Int → Int} (h0 : 2 ≤ pk) (h1 : pk ≤ 16) (hl : (pl0 S N).length ≤ 109) : (pad S N pk : Int) = pk * pkB pk ((pl0 S N).length + 1) - (pl0 S N).length - 1 ∧ pad S N pk ≤ 15 := by
  obtain ⟨-, -, -, -, a, b⟩ := pkB_eq (p := pk) (c := ((pl0 S N).length : Int) + 1) h0 h1 (by omega) (by omega)
  unfold pad
  omega
theorem pl_len {N : Int → Int} (h0 : 2 ≤ pk) (h1 : pk ≤ 16) (hl : (pl0 S N).length ≤ 109) : ((pl S N pk).length : Int) = pk * pkB pk ((pl0 S N).length + 1) ∧ (pl S N pk).length ≤ 125 := by
  obtain ⟨a, b⟩ := pad_b (S := S) (N := N) h0 h1 hl
  unfold pl
  simp only [List.length_append, List.length_replicate, List.length_cons, List.length_nil]
  omega
theorem hol_rep (L : List CT) (y : CT) (k : Nat) : L ++ List.replicate (k + 1) y = L ++ List.replicate k y ++ [y] := by
  rw [List.replicate_succ', List.append_assoc]
theorem ev_plan {p : Int} (hp0 : 2 ≤ p) (hp1 : p ≤ 16) (hn : nS (stt D 15)) : ∃ F', cm_x 6 0 [some (.inr (.inr 22)), some (.inr (.inr 15)), some (.inl (p)), none, none] [] (cm_hp D X) = some (.inl none, cm_hp F' X) ∧ cHol F' (pl (stt D 15) (cNm D) p) ∧ ∀ x : Nat, x < 22 ∨ 26 ≤ x → F' x = D x := by
  have hN : ∀ v, cNm D v ≠ -1 → 0 ≤ cNm D v ∧ cNm D v < 12 := fun v hv => (nm_B hv).1
  have h8 : ∀ n, 0 ≤ n → n < 12 → stt D 15 2 n ≤ 8 := fun n a b => (hn.2.1 n a b).2.1.2
  obtain ⟨G, L1, P1, P2⟩ := lp_inv (X := fun v G => cm_x 6 7 [some (.inr (.inr 22)), some (.inr (.inr 15)), some (.inl (p)), some (.inl (v)), none] [] (cm_hp G X)) (P := fun v G => cHol G (pvs (stt D 15) (cNm D) (v - 1).toNat) ∧ ∀ x : Nat, x < 22 ∨ 26 ≤ x → G x = D x) (lo := 1) (hi := 13) (fun v G v0 v1 hP => by
    obtain ⟨p1, p2⟩ := hP
    have e2 : cm_wr (v + 1) = v + 1 := cm_wr_id (by omega) (by omega)
    have ev : (v + 1 - 1).toNat = (v - 1).toNat + 1 := by omega
    have ek : (((v - 1).toNat : Nat) : Int) + 1 = v := by omega
    have en : cNm G v = cNm D v := by unfold cNm; rw [p2 16 (by omega)]
    have hlen := pvs_len (S := stt D 15) hN h8 (v - 1).toNat
    by_cases hq : cNm D v = -1
    · refine ⟨G, ?_, ?_, p2⟩
      · show cm_x 6 7 [some (.inr (.inr 22)), some (.inr (.inr 15)), some (.inl (p)), some (.inl (v)), none] [] (cm_hp G X) = cm_x 6 7 [some (.inr (.inr 22)), some (.inr (.inr 15)), some (.inl (p)), some (.inl (v + 1)), none] [] (cm_hp G X)
        rw [sg_X1_plan_7, if_pos v1, ev_nameOf, aft_v, sg_X1_plan_18, en, if_pos hq, sg_X1_plan_43, e2]
      · show cHol G (pvs (stt D 15) (cNm D) (v + 1 - 1).toNat)
        rw [ev]
        unfold pvs
        rw [ek, if_neg (fun z => z.1 hq), List.append_nil]
        exact p1
    · have hb := hN v hq
      by_cases hq2 : D 18 (cNm D v) = 0
      · refine ⟨G, ?_, ?_, p2⟩
        · show cm_x 6 7 [some (.inr (.inr 22)), some (.inr (.inr 15)), some (.inl (p)), some (.inl (v)), none] [] (cm_hp G X) = cm_x 6 7 [some (.inr (.inr 22)), some (.inr (.inr 15)), some (.inl (p)), some (.inl (v + 1)), none] [] (cm_hp G X)
          rw [sg_X1_plan_7, if_pos v1, ev_nameOf, aft_v, sg_X1_plan_18, en, if_neg hq, ck_t hb, p2 18 (by omega), if_pos hq2, sg_X1_plan_43, e2]
        · show cHol G (pvs (stt D 15) (cNm D) (v + 1 - 1).toNat)
          rw [ev]
          unfold pvs
          rw [ek, if_neg (fun z => z.2 hq2), List.append_nil]
          exact p1
      · obtain ⟨G', g1, g2, g3⟩ := ev_addFile (X := X) p1 p2 hb.1 hb.2 (hn.2.1 _ hb.1 hb.2).2.1.1 (h8 _ hb.1 hb.2) (by omega)
        refine ⟨G', ?_, ?_, g3⟩
        · show cm_x 6 7 [some (.inr (.inr 22)), some (.inr (.inr 15)), some (.inl (p)), some (.inl (v)), none] [] (cm_hp G X) = cm_x 6 7 [some (.inr (.inr 22)), some (.inr (.inr 15)), some (.inl (p)), some (.inl (v + 1)), none] [] (cm_hp G' X)
          rw [sg_X1_plan_7, if_pos v1, ev_nameOf, aft_v, sg_X1_plan_18, en, if_neg hq, ck_t hb, p2 18 (by omega), if_neg hq2, g1, aft_n, sg_X1_plan_43, e2]
        · show cHol G' (pvs (stt D 15) (cNm D) (v + 1 - 1).toNat)
          rw [ev]
          unfold pvs
          rw [ek, if_pos ⟨hq, hq2⟩]
          exact g2) (cm_up D 22 3 0) (by omega) ⟨⟨rfl, fun t x hx => by cases hx⟩, fun x hx => up_row (by omega)⟩
  have L1 : cm_x 6 7 [some (.inr (.inr 22)), some (.inr (.inr 15)), some (.inl (p)), some (.inl (1)), none] [] (cm_hp (cm_up D 22 3 0) X) = cm_x 6 7 [some (.inr (.inr 22)), some (.inr (.inr 15)), some (.inl (p)), some (.inl (13)), none] [] (cm_hp G X) := L1
  have P1 : cHol G (pvs (stt D 15) (cNm D) 12) := P1
  have hl12 := pvs_len (S := stt D 15) hN h8 12
  have hl0 := pl0_len hN h8
  -- the directory
  obtain ⟨G2, L2, Q1, Q2⟩ : ∃ G2, cm_x 6 7 [some (.inr (.inr 22)), some (.inr (.inr 15)), some (.inl (p)), some (.inl (13)), none] [] (cm_hp G X) = cm_x 6 63 [some (.inr (.inr 22)), some (.inr (.inr 15)), some (.inl (p)), some (.inl (13)), none] [] (cm_hp G2 X) ∧ cHol G2 (pl0 (stt D 15) (cNm D)) ∧ ∀ x : Nat, x < 22 ∨ 26 ≤ x → G2 x = D x := by
    by_cases hd : D 15 6 = 0
    · refine ⟨G, ?_, ?_, P2⟩
      · rw [sg_X1_plan_7, if_neg (by omega), P2 15 (by omega), if_pos hd]
      · unfold pl0
        rw [if_pos (show stt D 15 0 6 = 0 from hd), List.append_nil]
        exact P1
    · obtain ⟨G', g1, g2, g3⟩ := ev_add (X := X) P1 (by omega) 5 (-1) (-1)
      refine ⟨G', ?_, ?_, fun x hx => by rw [g3 x hx, P2 x hx]⟩
      · rw [sg_X1_plan_7, if_neg (by omega), P2 15 (by omega), if_neg hd, g1, aft_n]
      · unfold pl0
        rw [if_neg (show ¬ stt D 15 0 6 = 0 from hd)]
        exact g2
  obtain ⟨pd1, pd2⟩ := pad_b (S := stt D 15) (N := cNm D) hp0 hp1 hl0
  have q3 : G2 22 3 = ((pl0 (stt D 15) (cNm D)).length : Int) := Q1.1
  obtain ⟨-, u1, -, -, u2, u3⟩ := pkB_eq (p := p) (c := ((pl0 (stt D 15) (cNm D)).length : Int) + 1) hp0 hp1 (by omega) (by omega)
  have hm : cm_wr (cm_wr (cm_wr (pkB p (((pl0 (stt D 15) (cNm D)).length : Int) + 1) * p) - ((pl0 (stt D 15) (cNm D)).length : Int)) - 1) = (pad (stt D 15) (cNm D) p : Int) := by
    rw [Int.mul_comm (pkB p _) p, cm_wr_id (x := p * pkB p _) (by omega) (by omega), cm_wr_id (x := p * pkB p _ - _) (by omega) (by omega), cm_wr_id (by omega) (by omega), pd1]
  generalize hmm : (pad (stt D 15) (cNm D) p : Int) = m at hm pd1
  obtain ⟨G3, L3, T1, T2⟩ := lp_inv (X := fun k G => cm_x 6 86 [some (.inr (.inr 22)), some (.inr (.inr 15)), some (.inl (p)), some (.inl (m)), some (.inl (k))] [] (cm_hp G X)) (P := fun k G => cHol G (pl0 (stt D 15) (cNm D) ++ List.replicate k.toNat (2, -1, -1)) ∧ ∀ x : Nat, x < 22 ∨ 26 ≤ x → G x = D x) (lo := 0) (hi := m) (fun k G k0 k1 hP => by
    obtain ⟨p1, p2⟩ := hP
    have e2 : cm_wr (k + 1) = k + 1 := cm_wr_id (by omega) (by omega)
    obtain ⟨G', g1, g2, g3⟩ := ev_add (X := X) p1 (by rw [List.length_append, List.length_replicate]; omega) 2 (-1) (-1)
    refine ⟨G', ?_, ?_, fun x hx => by rw [g3 x hx, p2 x hx]⟩
    · show cm_x 6 86 [some (.inr (.inr 22)), some (.inr (.inr 15)), some (.inl (p)), some (.inl (m)), some (.inl (k))] [] (cm_hp G X) = cm_x 6 86 [some (.inr (.inr 22)), some (.inr (.inr 15)), some (.inl (p)), some (.inl (m)), some (.inl (k + 1))] [] (cm_hp G' X)
      rw [sg_X1_plan_86, if_pos k1, g1, aft_n, sg_X1_plan_99, e2]
    · show cHol G' (_ ++ List.replicate (k + 1).toNat _)
      rw [toN_s k0, hol_rep]
      exact g2) G2 (by omega) ⟨by show cHol G2 (_ ++ []); rw [List.append_nil]; exact Q1, Q2⟩
  have L3 : cm_x 6 86 [some (.inr (.inr 22)), some (.inr (.inr 15)), some (.inl (p)), some (.inl (m)), some (.inl (0))] [] (cm_hp G2 X) = cm_x 6 86 [some (.inr (.inr 22)), some (.inr (.inr 15)), some (.inl (p)), some (.inl (m)), some (.inl (m))] [] (cm_hp G3 X) := L3
  have T1 : cHol G3 (pl0 (stt D 15) (cNm D) ++ List.replicate (pad (stt D 15) (cNm D) p) (2, -1, -1)) := by
    have e : m.toNat = pad (stt D 15) (cNm D) p := by omega
    rw [← e]; exact T1
  obtain ⟨G', g1, g2, g3⟩ := ev_add (X := X) T1 (by rw [List.length_append, List.length_replicate]; omega) 6 (-1) (-1)
  refine ⟨G', ?_, g2, fun x hx => by rw [g3 x hx, T2 x hx]⟩
  rw [sg_X1_plan_0, L1, L2, sg_X1_plan_63, q3, cm_wr_id (by omega) (by omega), ev_pkBy hp0, aft_v, sg_X1_plan_73, q3, hm, L3, sg_X1_plan_86, if_neg (by omega), g1, aft_n, sg_X1_plan_113]
