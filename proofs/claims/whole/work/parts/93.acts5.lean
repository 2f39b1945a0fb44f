/-! mount, undo: the calls -/
variable {D E : Nat → Int → Int} {X : cm_X} {K B : Int → Int} {h pk t : Int} {r : Int → Int}
theorem q_mount (hR : R D t) (X : cm_X) {k : Int} (hk32 : i32 k) : MM t D X (fun H => cm_x 141 0 [some (.inr (.inr 0)), some (.inl (k)), none, none] [] H) (fun H => cm_x 257 0 [some (.inr (.inr 613)), some (.inl (k)), none, none] [] H) := by
  have hc := hR.1
  have hd := hc.1
  have hr := hc.2.2.2.2.1
  have hn := hc.2.2.2.2.2.1
  have gd := d_g hd
  have hh0 := gd.2.2.1
  have hh4 := gd.2.2.2
  have epk : D 614 1 = D 9 1 := hc.2.1 1 (by omega) (by omega)
  have hl : mpO (D 619) (D 9 1) (D 15 9) (lgM (D 619) (D 9 1) (D 15 9).toNat) := by
    have := lgM_ok (D 619) (D 9 1) (D 15 9).toNat
    rw [show (((D 15 9).toNat : Nat) : Int) = D 15 9 by omega] at this
    exact this
  have hm : mpO (D 619) (D 9 1) (D 15 9) (if k < 0 then -1 else alg (D 620) k.toNat (lgM (D 619) (D 9 1) (D 15 9).toNat)) := by
    by_cases h0 : k < 0
    · rw [if_pos h0]; exact Or.inl rfl
    · rw [if_neg h0]; exact alg_ok gd _ hl
  have cls : ∀ X, cm_x 141 0 [some (.inr (.inr 0)), some (.inl (k)), none, none] [] (cm_hp D X) = cm_x 141 24 [some (.inr (.inr 0)), some (.inl (k)), some (.inl (lgM (D 619) (D 9 1) (D 15 9).toNat)), none] [.inl (if k < 0 then -1 else alg (D 620) k.toNat (lgM (D 619) (D 9 1) (D 15 9).toNat))] (cm_hp D X) := fun X => by
    rw [sg_X8_mount_0, ev_last hd hh0 (Int.le_refl _), aft_v, sg_X8_mount_14, ev_mapAlong hd hl hk32.2, aft_v]
  have mdl : ∀ (F : Nat → Int → Int) Y, F 614 = D 614 → F 617 = D 617 → F 619 = D 619 → F 620 = D 620 → cm_x 257 0 [some (.inr (.inr 613)), some (.inl k), none, none] [] (cm_hp F Y) = cm_x 257 33 [some (.inr (.inr 613)), some (.inl k), some (.inl (lgM (D 619) (D 9 1) (D 15 9).toNat)), none] [.inl (if k < 0 then -1 else alg (D 620) k.toNat (lgM (D 619) (D 9 1) (D 15 9).toNat))] (cm_hp (cm_up F 613 0 0) Y) := fun F Y e1 e2 e3 e4 => by
    have hmdF : mdOk (cm_up F 613 0 0) (D 15 9) := by
      have := Rc_md hc
      unfold mdOk at *
      show gOk (F 614 1) (F 619) (F 620) (D 15 9) ∧ F 617 244 = D 15 9 ∧ 2 ≤ F 614 1 ∧ F 614 1 ≤ 16
      rw [e1, e2, e3, e4]; exact this
    have q1 : (cm_up F 613 0 0) 619 = D 619 := e3
    have q2 : (cm_up F 613 0 0) 614 1 = D 9 1 := by show F 614 1 = _; rw [e1]; exact epk
    have q3 : (cm_up F 613 0 0) 620 = D 620 := e4
    rw [sg_X9_mount_0, ev_mLast hmdF (by omega), aft_v, sg_X9_mount_12, mn_r hh4, q1, q2]
    by_cases h0 : k < 0
    · rw [if_pos h0, if_pos h0]
    · have hmn : 0 ≤ cm_mn k 400 ∧ cm_mn k 400 ≤ 400 := by
        by_cases h1 : k ≤ 400
        · rw [mn_l h1]; omega
        · rw [mn_r (by omega)]; omega
      rw [if_neg h0, if_neg h0, ev_mAlong hmdF (by rw [q1, q2]; exact hl) hmn.1 (by omega), aft_v, q3, ← alg_cut gd hl]
  generalize hmp : (if k < 0 then -1 else alg (D 620) k.toNat (lgM (D 619) (D 9 1) (D 15 9).toNat)) = mp at hm cls mdl
  have hneg : k < 0 → mp = -1 := fun z => by rw [← hmp, if_pos z]
  by_cases hq : mp = -1 ∧ k ≠ 0
  · refine MM_f hR ?_ (fun Y => ?_)
    · show cm_x 141 0 [some (.inr (.inr 0)), some (.inl (k)), none, none] [] (cm_hp D X) = _
      rw [cls, sg_X8_mount_24, if_pos hq.1, if_neg hq.2, sg_X8_refuse_0, aft_v, sg_X8_mount_38]
    · show cm_x 257 0 [some (.inr (.inr 613)), some (.inl k), none, none] [] (cm_hp (cm_up D 0 9 (cm_wr (D 0 9 + 1))) Y) = _
      rw [mdl (cm_up D 0 9 (cm_wr (D 0 9 + 1))) Y rfl rfl rfl rfl, sg_X9_mount_33]
      by_cases h0 : k < 0
      · rw [if_pos h0, sg_X9_refuse_0, aft_v, sg_X9_mount_51]
        rfl
      · rw [if_neg h0, if_pos hq.1, if_pos (by omega), sg_X9_refuse_0, aft_v, sg_X9_mount_51]
        rfl
  · obtain ⟨D1, k1, hk, hr1, hw1, hd1⟩ := kp_run hR X
    have e9 := KP_o hR hk (x := 9) (by omega)
    have e15 := KP_o hR hk (x := 15) (by omega)
    have hm1 : mpO (D 619) (D1 9 1) (D 15 9) mp := by rw [e9]; exact hm
    obtain ⟨D2, c1, c2, c3⟩ := ev_mount (X := X) hd1 hm1
    have hfr : ∀ x : Nat, (308 ≤ x) → D2 x = D x := fun x hx => by rw [c3 x (by omega), KP_o hR hk (by omega)]
    have c2' : mtS (D 620) mp (stt D2 15) (stt D 15) := by
      obtain ⟨a1, a2, a3, a4, a5, a6, a7, a8⟩ := c2
      refine ⟨a1, a2, a3, a4, a5, a6, ?_, ?_⟩
      · rw [a7]; show D1 15 9 = D 15 9; rw [e15]
      · rw [a8]; show D1 15 10 = D 15 10; rw [e15]
    refine ⟨smw (cHas D2) 12, D2, ?_, fun Y => ?_⟩
    · show cm_x 141 0 [some (.inr (.inr 0)), some (.inl (k)), none, none] [] (cm_hp D X) = _
      rw [cls, sg_X8_mount_24]
      have tail : cm_aft 141 47 50 [some (.inr (.inr 0)), some (.inl (k)), some (.inl (lgM (D 619) (D 9 1) (D 15 9).toNat)), some (.inl (mp))] [] (cm_x 2 0 [some (.inr (.inr 26)), some (.inr (.inr 15))] [] (cm_hp D X)) = some (.inl (some (.inl (smw (cHas D2) 12))), cm_hp D2 X) := by
        rw [k1, aft_n, sg_X8_mount_50, c1, aft_n, sg_X8_mount_62, ev_files, aft_v, sg_X8_mount_69]
      by_cases hq1 : mp = -1
      · rw [if_pos hq1, if_pos (Classical.not_not.mp fun z => hq ⟨hq1, z⟩)]; exact tail
      · rw [if_neg hq1]; exact tail
    · obtain ⟨g, m1, m2⟩ := mk_run hR hk c3 Y
      have h617 : (kE D2 g) 617 = D 617 := hfr 617 (by omega)
      have h620 : (kE D2 g) 620 = D 620 := hfr 620 (by omega)
      have hmdK : mdOk (kE D2 g) (D 15 9) := by
        have := Rc_md hc
        unfold mdOk at *
        show gOk (D2 614 1) (D2 619) (D2 620) (D 15 9) ∧ D2 617 244 = D 15 9 ∧ 2 ≤ D2 614 1 ∧ D2 614 1 ≤ 16
        rw [hfr 614 (by omega), hfr 617 (by omega), hfr 619 (by omega), hfr 620 (by omega)]; exact this
      have hmK : mpO ((kE D2 g) 619) ((kE D2 g) 614 1) (D 15 9) mp := by
        show mpO (D2 619) (D2 614 1) (D 15 9) mp
        rw [hfr 619 (by omega), hfr 614 (by omega), epk]; exact hm
      obtain ⟨f, f1, f2⟩ := ev_mMount (E := kE D2 g) (X := Y) hmdK hmK
      rw [h617, h620] at f2
      obtain ⟨b1, b2⟩ := mt_R gd hm c2' f2 rfl hr.2.2.2.2.2.2.1 hr.2.2.2.2.2.2.2 hc.2.2.2.2.2.2.2
      refine ⟨cm_ua (kE D2 g) 617 f, ?_, act_fin hR hk.1 hk.2.1 hk.2.2.1 hk.2.2.2 c3 m2 b1 b2 (c2'.2.2.2.2.2.2.1)⟩
      show cm_x 257 0 [some (.inr (.inr 613)), some (.inl k), none, none] [] (cm_hp D2 Y) = _
      rw [mdl D2 Y (hfr 614 (by omega)) (hfr 617 (by omega)) (hfr 619 (by omega)) (hfr 620 (by omega)), sg_X9_mount_33]
      have tail : cm_aft 257 53 56 [some (.inr (.inr 613)), some (.inl k), some (.inl (lgM (D 619) (D 9 1) (D 15 9).toNat)), some (.inl mp)] [] (cm_x 238 0 [some (.inr (.inr 613)), none] [] (cm_hp (cm_up D2 613 0 0) Y)) = some (.inl (some (.inl (smw (cHas D2) 12))), cm_hp (cm_ua (kE D2 g) 617 f) Y) := by
        rw [m1, aft_n, sg_X9_mount_56, f1, aft_n, sg_X9_mount_61, ev_mFiles, aft_v, sg_X9_mount_65, ua_same, eq_files b1 b2.1]
      by_cases h0 : k < 0
      · exact absurd ⟨hneg h0, by omega⟩ hq
      · rw [if_neg h0]
        by_cases hq1 : mp = -1
        · rw [if_pos hq1, if_neg (fun z => hq ⟨hq1, by omega⟩)]; exact tail
        · rw [if_neg hq1]; exact tail
theorem ev_mUndo (c0 : 0 ≤ E 613 29) (c1 : E 613 29 < 40) : ∃ f, cm_x 258 26 [some (.inr (.inr 613)), some (.inl (0))] [] (cm_hp E X) = some (.inl (some (.inl (E 613 29))), cm_hp (cm_ua E 617 f) X) ∧ ∀ j, 0 ≤ j → j < 246 → f j = E 626 (246 * E 613 29 + j) := by
  obtain ⟨f, L, P⟩ := lp_inv (X := fun x f => cm_x 258 26 [some (.inr (.inr 613)), some (.inl (x))] [] (cm_hp (cm_ua E 617 f) X)) (P := fun x f => ∀ j, 0 ≤ j → j < x → f j = E 626 (246 * E 613 29 + j)) (lo := 0) (hi := 246) (fun x f x0 x1 hP => by
    refine ⟨cm_u1 f x (E 626 (246 * E 613 29 + x)), ?_, fun j j0 j1 => ?_⟩
    · show cm_x 258 26 [some (.inr (.inr 613)), some (.inl (x))] [] (cm_hp (cm_ua E 617 f) X) = cm_x 258 26 [some (.inr (.inr 613)), some (.inl (x + 1))] [] (cm_hp (cm_ua E 617 (cm_u1 f x (E 626 (246 * E 613 29 + x)))) X)
      have q1 : cm_ua E 617 f 613 = E 613 := rfl
      have q2 : cm_ua E 617 f 626 = E 626 := rfl
      have e1 : cm_wr (246 * E 613 29) = 246 * E 613 29 := cm_wr_id (by omega) (by omega)
      have e2 : cm_wr (246 * E 613 29 + x) = 246 * E 613 29 + x := cm_wr_id (by omega) (by omega)
      have e3 : cm_wr (x + 1) = x + 1 := cm_wr_id (by omega) (by omega)
      rw [sg_X9_undo_26, if_pos x1, q1, q2, e1, e2, ck_t (by omega), ck_t (by omega), up_to_ua, ua_ua, ua_same, e3]
    · by_cases hj : j = x
      · rw [hj, u1_eq]
      · rw [u1_ne hj]; exact hP j j0 (by omega)) (E 617) (by omega) (fun j j0 j1 => by omega)
  have L : cm_x 258 26 [some (.inr (.inr 613)), some (.inl (0))] [] (cm_hp E X) = cm_x 258 26 [some (.inr (.inr 613)), some (.inl (246))] [] (cm_hp (cm_ua E 617 f) X) := by
    have := L
    rw [ua_id] at this
    exact this
  refine ⟨f, ?_, P⟩
  have q1 : cm_ua E 617 f 613 = E 613 := rfl
  rw [L, sg_X9_undo_26, if_neg (by omega), q1]
/-- the acts, the last one undone -/
theorem aG_back {nx cn h' : Int} {St St' : Int → Nat → Int → Int} {P P' : Int → Int} (ha : aG pk K B h nx cn St P) (hc : 1 ≤ cn) (hh : St (aI nx cn (cn - 1)) 0 9 = h') (hs : ∀ q, 0 ≤ q → q < 40 → agS (St' q) (St q)) (hp : ∀ j, 0 ≤ j → j < 246 * (cn - 1) → P' j = P j) : aG pk K B h' (pvA nx) (cn - 1) St' P' := by
  obtain ⟨⟨a1, a2⟩, ⟨a3, a4⟩, a5, a9⟩ := ha
  have hI : ∀ k, aI (pvA nx) (cn - 1) k = aI nx cn k := fun k => by unfold aI pvA; omega
  refine ⟨by unfold pvA; omega, by omega, fun k k0 k1 => ?_, fun q q0 q1 => bS_ag (hs q q0 q1) (a9 q q0 q1)⟩
  obtain ⟨⟨b1, b2⟩, b3, b4⟩ := a5 k k0 (by omega)
  have hb := aI_b nx cn k
  have hg := hs _ hb.1 hb.2
  rw [hI]
  refine ⟨⟨rS_cg (fun j j0 j1 => hp _ (by omega) (by omega)) (nS_ag hg b2.1) (rS_ag hg b2.1 b1), wS_ag hg b2⟩, ?_, fun l l0 l1 => ?_⟩
  · rw [hg.2.2.2.2.2.2.1, ← hh]; exact b4 (cn - 1) (by omega) (by omega)
  · have hb2 := aI_b nx cn l
    rw [hI, hg.2.2.2.2.2.2.1, (hs _ hb2.1 hb2.2).2.2.2.2.2.2.1]
    exact b4 l l0 (by omega)
theorem q_undo (hR : R D t) (X : cm_X) : MM t D X (fun H => cm_x 142 0 [some (.inr (.inr 0))] [] H) (fun H => cm_x 258 0 [some (.inr (.inr 613)), none] [] H) := by
  have hc := hR.1
  have hnx := hR.2.1.1.1
  have hcn := hR.2.1.1.2.1
  have e29 : D 613 29 = D 26 2 := hR.2.1.2
  by_cases h0 : D 26 2 = 0
  · refine MM_s (v := -1) hR (fun X => ?_) (fun X => ?_)
    · show cm_x 142 0 [some (.inr (.inr 0))] [] (cm_hp D X) = _
      rw [sg_X8_undo_0, if_pos h0]
    · show cm_x 258 0 [some (.inr (.inr 613)), none] [] (cm_hp D X) = _
      rw [sg_X9_undo_0, if_pos (by omega)]
  · have hlast := hR.2.1.1.2.2.1 (D 26 2 - 1) (by omega) (by omega)
    have hI : aI (D 26 1) (D 26 2) (D 26 2 - 1) = pvA (D 26 1) := by unfold aI pvA; omega
    rw [hI] at hlast
    obtain ⟨⟨hrl, hwl⟩, hhl, -⟩ := hlast
    obtain ⟨D', u1, u2, u3, u4, u5⟩ := ev_back (X := X) hnx.1 hnx.2 (by omega) hcn.2 (bS_n hwl.1)
    refine ⟨D 26 2 - 1, D', ?_, fun Y => ?_⟩
    · show cm_x 142 0 [some (.inr (.inr 0))] [] (cm_hp D X) = _
      rw [sg_X8_undo_0, if_neg h0, u1, aft_n, sg_X8_undo_23, u4]
    · have e613 : D' 613 = D 613 := u5 613 (by omega) (by omega)
      have z29 : (cm_up (cm_up D' 613 0 0) 613 29 (D 26 2 - 1)) 613 29 = D 26 2 - 1 := rfl
      obtain ⟨f, v1, v2⟩ := ev_mUndo (E := cm_up (cm_up D' 613 0 0) 613 29 (D 26 2 - 1)) (X := Y) (by rw [z29]; omega) (by rw [z29]; omega)
      rw [z29] at v1 v2
      have z626 : (cm_up (cm_up D' 613 0 0) 613 29 (D 26 2 - 1)) 626 = D 626 := u5 626 (by omega) (by omega)
      rw [z626] at v2
      refine ⟨cm_ua (cm_up (cm_up D' 613 0 0) 613 29 (D 26 2 - 1)) 617 f, ?_, ?_, ?_⟩
      · show cm_x 258 0 [some (.inr (.inr 613)), none] [] (cm_hp D' Y) = _
        rw [sg_X9_undo_0, e613, e29, if_neg h0, cm_wr_id (by omega) (by omega)]
        exact v1
      · generalize hE : cm_ua (cm_up (cm_up D' 613 0 0) 613 29 (D 26 2 - 1)) 617 f = E
        have hEo : ∀ x : Nat, x ≠ 613 → x ≠ 617 → E x = D' x := fun x a b => by rw [← hE, ua_row b, up_row a, up_row a]
        have hE6 : ∀ j : Int, j ≠ 0 → j ≠ 29 → E 613 j = D 613 j := fun j a b => by
          rw [← hE]
          show (if j = 29 then _ else (if j = 0 then (0 : Int) else D' 613 j)) = D 613 j
          rw [if_neg b, if_neg a, e613]
        have hE29 : E 613 29 = D 26 2 - 1 := by rw [← hE]; rfl
        have hE17 : E 617 = f := by rw [← hE]; rfl
        have h2 : ∀ x : Nat, x ≠ 613 → x ≠ 617 → x ≠ 26 → (x < 15 ∨ 22 ≤ x) → E x = D x := fun x a b c d => by rw [hEo x a b, u5 x c d]
        have hst : agS (stt E 15) (stt D (adr (pvA (D 26 1)))) := agS_tr (agS_of fun j hj => hEo _ (by omega) (by omega)) u2
        have h15 : E 15 9 = D (adr (pvA (D 26 1))) 9 := hst.2.2.2.2.2.2.1
        have hhl' : D (adr (pvA (D 26 1))) 9 ≤ D 15 9 := hhl
        have h09 : 0 ≤ D (adr (pvA (D 26 1))) 9 := hwl.2.1.1
        have hc9 := h2 9 (by omega) (by omega) (by omega) (by omega)
        have hcE : Rc E := by
          obtain ⟨⟨z1, z2, z3, z4, z5⟩, r2, r3, r4, -, -⟩ := hc
          unfold Rc
          rw [h2 619 (by omega) (by omega) (by omega) (by omega), h2 620 (by omega) (by omega) (by omega) (by omega), h2 614 (by omega) (by omega) (by omega) (by omega), h2 615 (by omega) (by omega) (by omega) (by omega), h2 10 (by omega) (by omega) (by omega) (by omega), hc9, h15, hE6 21 (by omega) (by omega), hE17]
          refine ⟨dOk_of (D := D) (by rw [hc9]) (by rw [hc9]) (by rw [hc9]) (by rw [hc9]) (h2 11 (by omega) (by omega) (by omega) (by omega)) (h2 12 (by omega) (by omega) (by omega) (by omega)) (h2 13 (by omega) (by omega) (by omega) (by omega)) ⟨z1, fun b b0 b1 => z2 b b0 (by omega), fun b b0 b1 => z3 b b0 (by omega), by omega, h09⟩, r2, r3, r4, ?_, wS_ag hst hwl⟩
          exact rS_cg (fun j j0 j1 => v2 j j0 j1) (nS_ag hst hwl.1) (rS_ag hst hwl.1 hrl)
        refine ⟨hcE, ⟨?_, ?_⟩, iR_o ⟨fun a ha => ?_, ?_, ?_⟩ hR.2.2.1, tR_o ⟨fun a ha => ?_, ?_, ?_⟩ hR.2.2.2.1, lk_mono (lk_o ⟨fun a ha => ?_, ?_, ?_⟩ hR.2.2.2.2) (by omega)⟩
        · rw [h2 619 (by omega) (by omega) (by omega) (by omega), h2 620 (by omega) (by omega) (by omega) (by omega), h2 626 (by omega) (by omega) (by omega) (by omega), hc9, hEo 26 (by omega) (by omega), u3, u4]
          refine aG_back hR.2.1.1 (by omega) ?_ (fun q q0 q1 => agS_of fun j hj => h2 _ ?_ ?_ ?_ ?_) (fun _ _ _ => rfl)
          · rw [hI]; exact h15.symm
          · unfold adr; omega
          · unfold adr; omega
          · unfold adr; omega
          · unfold adr; omega
        · rw [hE29, hEo 26 (by omega) (by omega), u4]
        · unfold oRow at ha; exact h2 a (by omega) (by omega) (by omega) (by omega)
        · rw [hc9]; exact ⟨rfl, rfl, rfl⟩
        · exact ⟨hE6 9 (by omega) (by omega), hE6 18 (by omega) (by omega), hE6 33 (by omega) (by omega), hE6 34 (by omega) (by omega)⟩
        · unfold oRow at ha; exact h2 a (by omega) (by omega) (by omega) (by omega)
        · rw [hc9]; exact ⟨rfl, rfl, rfl⟩
        · exact ⟨hE6 9 (by omega) (by omega), hE6 18 (by omega) (by omega), hE6 33 (by omega) (by omega), hE6 34 (by omega) (by omega)⟩
        · unfold oRow at ha; exact h2 a (by omega) (by omega) (by omega) (by omega)
        · rw [hc9]; exact ⟨rfl, rfl, rfl⟩
        · exact ⟨hE6 9 (by omega) (by omega), hE6 18 (by omega) (by omega), hE6 33 (by omega) (by omega), hE6 34 (by omega) (by omega)⟩
      · show D' 100000 = D 100000
        exact u5 100000 (by omega) (by omega)
