/-! the contents of a writing: the reference -/
variable {D E : Nat → Int → Int} {X : cm_X} {K B K' B' : Int → Int} {h pk t : Int} {S : Nat → Int → Int} {r : Int → Int}
def fL (E G : Nat → Int → Int) : Prop := (∀ j, j ≠ 25 → j ≠ 26 → G 613 j = E 613 j) ∧ ∀ x : Nat, x ≠ 613 → x ≠ 622 → x ≠ 623 → G x = E x
theorem whs3 (n c : Int) : whs (3, n, c) = 8 * n + c := rfl
theorem whs4 (n c : Int) : whs (4, n, c) = n := rfl
theorem ev_mLayF {L : List CT} {F : Nat → Int → Int} (hr : rS S (E 617)) (hn : nS S) (hF : mHol F L) (fr : fL E F) {n v : Int} (n0 : 0 ≤ n) (n1 : n < 12) (v0 : 0 ≤ v) (v1 : v < 13) (hl : L.length + 9 ≤ 126) : ∃ F', cm_x 202 41 [some (.inr (.inr 613)), some (.inl (v)), some (.inl (n)), some (.inl (0))] [] (cm_hp F X) = cm_x 202 7 [some (.inr (.inr 613)), some (.inl (v + 1)), none, none] [] (cm_hp F' X) ∧ mHol F' (L ++ pfl S n) ∧ fL E F' := by
  have l01 := (hn.2.1 n n0 n1).2.1
  have r12 : E 617 (12 + n) = S 2 n := (hr.1 n n0 n1).2.1
  have w12 : cm_wr (12 + n) = 12 + n := cm_wr_id (by omega) (by omega)
  obtain ⟨G, L1, P1, P2⟩ := lp_inv (X := fun c G => cm_x 202 41 [some (.inr (.inr 613)), some (.inl (v)), some (.inl (n)), some (.inl (c))] [] (cm_hp G X)) (P := fun c G => mHol G (L ++ pcs S n c.toNat) ∧ fL E G) (lo := 0) (hi := S 2 n) (fun c G c0 c1 hP => by
    obtain ⟨p1, p2⟩ := hP
    have e2 : cm_wr (c + 1) = c + 1 := cm_wr_id (by omega) (by omega)
    have e17 : G 617 = E 617 := p2.2 617 (by omega) (by omega) (by omega)
    have hlen : (L ++ pcs S n c.toNat).length < 130 := by
      have := pcs_len (S := S) n c.toNat
      rw [List.length_append]
      omega
    have ec : ((c.toNat : Nat) : Int) = c := by omega
    have w8 : cm_wr (8 * n) = 8 * n := cm_wr_id (by omega) (by omega)
    have w36 : cm_wr (cm_wr (36 + 8 * n) + c) = 36 + 8 * n + c := by rw [cm_wr_id (x := 36 + 8 * n) (by omega) (by omega), cm_wr_id (by omega) (by omega)]
    have w8c : cm_wr (8 * n + c) = 8 * n + c := cm_wr_id (by omega) (by omega)
    have r36 : E 617 (36 + 8 * n + c) = S 4 (n * 8 + c) := (hr.2.1 n c n0 n1 c0 c1).1
    by_cases hq : S 4 (n * 8 + c) = -1
    · obtain ⟨G', g1, g2, g3, g4⟩ := ev_mContent (X := X) p1 hlen (3, n, c)
      rw [whs3] at g1
      have g1 : cm_x 199 0 [some (.inr (.inr 613)), some (.inl (3)), some (.inl (8 * n + c))] [] (cm_hp G X) = some (.inl none, cm_hp G' X) := g1
      refine ⟨G', ?_, ?_, fun j a b => by rw [g3 j a, p2.1 j a b], fun x a b c => by rw [g4 x a b c, p2.2 x a b c]⟩
      · show cm_x 202 41 [some (.inr (.inr 613)), some (.inl (v)), some (.inl (n)), some (.inl (c))] [] (cm_hp G X) = cm_x 202 41 [some (.inr (.inr 613)), some (.inl (v)), some (.inl (n)), some (.inl (c + 1))] [] (cm_hp G' X)
        rw [sg_X9_layContents_41, w12, ck_t (by omega), e17, r12, if_pos c1, w8, w36, ck_t (by omega), r36, if_pos hq, w8c, g1, aft_n, sg_X9_layContents_83, e2]
      · show mHol G' (L ++ pcs S n (c + 1).toNat)
        rw [toN_s c0]
        unfold pcs
        rw [ec, if_pos hq, ← List.append_assoc]
        exact g2
    · refine ⟨G, ?_, ?_, p2⟩
      · show cm_x 202 41 [some (.inr (.inr 613)), some (.inl (v)), some (.inl (n)), some (.inl (c))] [] (cm_hp G X) = cm_x 202 41 [some (.inr (.inr 613)), some (.inl (v)), some (.inl (n)), some (.inl (c + 1))] [] (cm_hp G X)
        rw [sg_X9_layContents_41, w12, ck_t (by omega), e17, r12, if_pos c1, w8, w36, ck_t (by omega), r36, if_neg hq, sg_X9_layContents_83, e2]
      · show mHol G (L ++ pcs S n (c + 1).toNat)
        rw [toN_s c0]
        unfold pcs
        rw [ec, if_neg hq, List.append_nil]
        exact p1) F l01.1 ⟨by show mHol F (L ++ []); rw [List.append_nil]; exact hF, fr⟩
  have L1 : cm_x 202 41 [some (.inr (.inr 613)), some (.inl (v)), some (.inl (n)), some (.inl (0))] [] (cm_hp F X) = cm_x 202 41 [some (.inr (.inr 613)), some (.inl (v)), some (.inl (n)), some (.inl (S 2 n))] [] (cm_hp G X) := L1
  have hlen : (L ++ pcs S n (S 2 n).toNat).length < 130 := by
    have := pcs_len (S := S) n (S 2 n).toNat
    rw [List.length_append]
    omega
  obtain ⟨G', g1, g2, g3, g4⟩ := ev_mContent (X := X) P1 hlen (4, n, -1)
  rw [whs4] at g1
  have g1 : cm_x 199 0 [some (.inr (.inr 613)), some (.inl (4)), some (.inl (n))] [] (cm_hp G X) = some (.inl none, cm_hp G' X) := g1
  have e17 : G 617 = E 617 := P2.2 617 (by omega) (by omega) (by omega)
  refine ⟨G', ?_, ?_, fun j a b => by rw [g3 j a, P2.1 j a b], fun x a b c => by rw [g4 x a b c, P2.2 x a b c]⟩
  · rw [L1, sg_X9_layContents_41, w12, ck_t (by omega), e17, r12, if_neg (by omega), g1, aft_n, sg_X9_layContents_95_1, cm_wr_id (by omega) (by omega)]
  · unfold pfl
    rw [← List.append_assoc]
    exact g2
theorem ev_mLay {N : Int → Int} (hr : rS S (E 617)) (hn : nS S) (hN : ∀ v, N v ≠ -1 → 0 ≤ N v ∧ N v < 12) (hNm : ∀ v, 1 ≤ v → mNm (E 617) v = N v) (hp0 : 2 ≤ E 614 1) (hp1 : E 614 1 ≤ 16) : ∃ E', cm_x 202 0 [some (.inr (.inr 613)), none, none, none] [] (cm_hp E X) = some (.inl none, cm_hp E' X) ∧ mHol E' (pl S N (E 614 1)) ∧ E' 613 26 = pkB (E 614 1) ((pl0 S N).length + 1) ∧ fL E E' := by
  have h8 : ∀ n, 0 ≤ n → n < 12 → S 2 n ≤ 8 := fun n a b => (hn.2.1 n a b).2.1.2
  have hl12 := pvs_len (S := S) hN h8 12
  have hl0 := pl0_len (S := S) hN h8
  obtain ⟨G, L1, P1, P2⟩ := lp_inv (X := fun v G => cm_x 202 7 [some (.inr (.inr 613)), some (.inl (v)), none, none] [] (cm_hp G X)) (P := fun v G => mHol G (pvs S N (v - 1).toNat) ∧ fL E G) (lo := 1) (hi := 13) (fun v G v0 v1 hP => by
    obtain ⟨p1, p2⟩ := hP
    have e2 : cm_wr (v + 1) = v + 1 := cm_wr_id (by omega) (by omega)
    have ev : (v + 1 - 1).toNat = (v - 1).toNat + 1 := by omega
    have ek : (((v - 1).toNat : Nat) : Int) + 1 = v := by omega
    have e17 : G 617 = E 617 := p2.2 617 (by omega) (by omega) (by omega)
    have en : mNm (G 617) v = N v := by rw [e17]; exact hNm v v0
    have hlen := pvs_len (S := S) hN h8 (v - 1).toNat
    by_cases hq : N v = -1
    · refine ⟨G, ?_, ?_, p2⟩
      · show cm_x 202 7 [some (.inr (.inr 613)), some (.inl (v)), none, none] [] (cm_hp G X) = cm_x 202 7 [some (.inr (.inr 613)), some (.inl (v + 1)), none, none] [] (cm_hp G X)
        rw [sg_X9_layContents_7, if_pos v1, ev_mNameOf, aft_v, sg_X9_layContents_18, en, if_pos hq, sg_X9_layContents_95, e2]
      · show mHol G (pvs S N (v + 1 - 1).toNat)
        rw [ev]
        unfold pvs
        rw [ek, if_neg (fun z => z.1 hq), List.append_nil]
        exact p1
    · have hb := hN v hq
      have w24 : cm_wr (24 + N v) = 24 + N v := cm_wr_id (by omega) (by omega)
      have r24 : E 617 (24 + N v) = S 3 (N v) := (hr.1 _ hb.1 hb.2).2.2
      by_cases hq2 : S 3 (N v) = 0
      · refine ⟨G, ?_, ?_, p2⟩
        · show cm_x 202 7 [some (.inr (.inr 613)), some (.inl (v)), none, none] [] (cm_hp G X) = cm_x 202 7 [some (.inr (.inr 613)), some (.inl (v + 1)), none, none] [] (cm_hp G X)
          rw [sg_X9_layContents_7, if_pos v1, ev_mNameOf, aft_v, sg_X9_layContents_18, en, if_neg hq, w24, ck_t (by omega), e17, r24, if_pos hq2, sg_X9_layContents_95, e2]
        · show mHol G (pvs S N (v + 1 - 1).toNat)
          rw [ev]
          unfold pvs
          rw [ek, if_neg (fun z => z.2 hq2), List.append_nil]
          exact p1
      · obtain ⟨G', g1, g2, g3⟩ := ev_mLayF (X := X) (v := v) hr hn p1 p2 hb.1 hb.2 (by omega) v1 (by omega)
        refine ⟨G', ?_, ?_, g3⟩
        · show cm_x 202 7 [some (.inr (.inr 613)), some (.inl (v)), none, none] [] (cm_hp G X) = cm_x 202 7 [some (.inr (.inr 613)), some (.inl (v + 1)), none, none] [] (cm_hp G' X)
          rw [sg_X9_layContents_7, if_pos v1, ev_mNameOf, aft_v, sg_X9_layContents_18, en, if_neg hq, w24, ck_t (by omega), e17, r24, if_neg hq2, g1]
        · show mHol G' (pvs S N (v + 1 - 1).toNat)
          rw [ev]
          unfold pvs
          rw [ek, if_pos ⟨hq, hq2⟩]
          exact g2) (cm_up E 613 25 0) (by omega) ⟨⟨rfl, fun t x hx => by cases hx⟩, fun j a b => by rw [up_same, u1_ne a], fun x a _ _ => up_row a⟩
  have L1 : cm_x 202 7 [some (.inr (.inr 613)), some (.inl (1)), none, none] [] (cm_hp (cm_up E 613 25 0) X) = cm_x 202 7 [some (.inr (.inr 613)), some (.inl (13)), none, none] [] (cm_hp G X) := L1
  have P1 : mHol G (pvs S N 12) := P1
  have r241 : E 617 241 = S 0 6 := hr.2.2.2.1
  obtain ⟨G2, L2, Q1, Q2⟩ : ∃ G2, cm_x 202 7 [some (.inr (.inr 613)), some (.inl (13)), none, none] [] (cm_hp G X) = cm_x 202 119 [some (.inr (.inr 613)), some (.inl (13)), none, none] [] (cm_hp G2 X) ∧ mHol G2 (pl0 S N) ∧ fL E G2 := by
    have e17 : G 617 = E 617 := P2.2 617 (by omega) (by omega) (by omega)
    have h01 := hn.1
    by_cases hd : S 0 6 = 0
    · refine ⟨G, ?_, ?_, P2⟩
      · rw [sg_X9_layContents_7, if_neg (by omega), e17, r241, if_neg (by omega)]
      · unfold pl0
        rw [if_pos hd, List.append_nil]
        exact P1
    · obtain ⟨G', g1, g2, g3, g4⟩ := ev_mContent (X := X) P1 (by omega) (5, -1, -1)
      have g1 : cm_x 199 0 [some (.inr (.inr 613)), some (.inl (5)), some (.inl (0))] [] (cm_hp G X) = some (.inl none, cm_hp G' X) := g1
      refine ⟨G', ?_, ?_, fun j a b => by rw [g3 j a, P2.1 j a b], fun x a b c => by rw [g4 x a b c, P2.2 x a b c]⟩
      · rw [sg_X9_layContents_7, if_neg (by omega), e17, r241, if_pos (by omega), g1, aft_n]
      · unfold pl0
        rw [if_neg hd]
        exact g2
  obtain ⟨pd1, pd2⟩ := pad_b (S := S) (N := N) hp0 hp1 hl0
  have q3 : G2 613 25 = ((pl0 S N).length : Int) := Q1.1
  obtain ⟨-, u1, u0, -, u2, u3⟩ := pkB_eq (p := E 614 1) (c := ((pl0 S N).length : Int) + 1) hp0 hp1 (by omega) (by omega)
  have e14 : G2 614 = E 614 := Q2.2 614 (by omega) (by omega) (by omega)
  generalize hk : pkB (E 614 1) (((pl0 S N).length : Int) + 1) = q at pd1 u1 u0 u2 u3
  have wq : cm_wr (cm_wr (q * E 614 1) - 1) = q * E 614 1 - 1 := by
    rw [Int.mul_comm q, cm_wr_id (x := E 614 1 * q) (by omega) (by omega), cm_wr_id (by omega) (by omega)]
  have hqm : q * E 614 1 = E 614 1 * q := Int.mul_comm _ _
  have H3 : mHol (cm_up G2 613 26 q) (pl0 S N) := by
    refine ⟨?_, fun t x hx => ?_⟩
    · rw [up_same, u1_ne (by omega)]; exact Q1.1
    · rw [up_row (by omega), up_row (by omega)]; exact Q1.2 t x hx
  obtain ⟨G3, L3, T1, T2, T3⟩ := lp_inv (X := fun _ G => cm_x 202 138 [some (.inr (.inr 613)), some (.inl (13)), none, none] [] (cm_hp G X)) (P := fun k G => mHol G (pl0 S N ++ List.replicate k.toNat (2, -1, -1)) ∧ fL E G ∧ G 613 26 = q) (lo := 0) (hi := (pad S N (E 614 1) : Int)) (fun k G k0 k1 hP => by
    obtain ⟨p1, p2, p3⟩ := hP
    have e14 : G 614 = E 614 := p2.2 614 (by omega) (by omega) (by omega)
    have ec : G 613 25 = ((pl0 S N).length : Int) + k := by
      rw [p1.1, List.length_append, List.length_replicate]
      omega
    obtain ⟨G', g1, g2, g3, g4⟩ := ev_mContent (X := X) p1 (by rw [List.length_append, List.length_replicate]; omega) (2, -1, -1)
    have g1 : cm_x 199 0 [some (.inr (.inr 613)), some (.inl (2)), some (.inl (0))] [] (cm_hp G X) = some (.inl none, cm_hp G' X) := g1
    refine ⟨G', ?_, ?_, ⟨fun j a b => by rw [g3 j a, p2.1 j a b], fun x a b c => by rw [g4 x a b c, p2.2 x a b c]⟩, ?_⟩
    · show cm_x 202 138 [some (.inr (.inr 613)), some (.inl (13)), none, none] [] (cm_hp G X) = cm_x 202 138 [some (.inr (.inr 613)), some (.inl (13)), none, none] [] (cm_hp G' X)
      rw [sg_X9_layContents_138, e14, p3, wq, ec, if_pos (by omega), g1, aft_n, sg_X9_layContents_164]
    · show mHol G' (_ ++ List.replicate (k + 1).toNat _)
      rw [toN_s k0, hol_rep]
      exact g2
    · rw [g3 26 (by omega)]; exact p3) (cm_up G2 613 26 q) (by omega) ⟨by show mHol _ (_ ++ []); rw [List.append_nil]; exact H3, ⟨fun j a b => by rw [up_same, u1_ne b]; exact Q2.1 j a b, fun x a b c => by rw [up_row a]; exact Q2.2 x a b c⟩, by rw [up_same, u1_eq]⟩
  have L3 : cm_x 202 138 [some (.inr (.inr 613)), some (.inl (13)), none, none] [] (cm_hp (cm_up G2 613 26 q) X) = cm_x 202 138 [some (.inr (.inr 613)), some (.inl (13)), none, none] [] (cm_hp G3 X) := L3
  have T1 : mHol G3 (pl0 S N ++ List.replicate (pad S N (E 614 1)) (2, -1, -1)) := T1
  have ec : G3 613 25 = ((pl0 S N).length : Int) + pad S N (E 614 1) := by
    rw [T1.1, List.length_append, List.length_replicate]
    omega
  have e14' : G3 614 = E 614 := T2.2 614 (by omega) (by omega) (by omega)
  obtain ⟨G', g1, g2, g3, g4⟩ := ev_mContent (X := X) T1 (by rw [List.length_append, List.length_replicate]; omega) (6, -1, -1)
  have g1 : cm_x 199 0 [some (.inr (.inr 613)), some (.inl (6)), some (.inl (0))] [] (cm_hp G3 X) = some (.inl none, cm_hp G' X) := g1
  refine ⟨G', ?_, g2, ?_, fun j a b => by rw [g3 j a, T2.1 j a b], fun x a b c => by rw [g4 x a b c, T2.2 x a b c]⟩
  · rw [sg_X9_layContents_0, L1, L2, sg_X9_layContents_119, q3, e14, cm_wr_id (by omega) (by omega), ev_mUp hp0, aft_v, sg_X9_layContents_135, hk, L3, sg_X9_layContents_138, e14', T3, wq, ec, if_neg (by omega), g1, aft_n, sg_X9_layContents_174]
  · rw [g3 26 (by omega)]; exact T3
