/-! acts are kept, taken back, copied: segments -/
theorem sg_kp_0 (D : Nat → Int → Int) (X : cm_X) : cm_x 2 0 [some (.inr (.inr 26)), some (.inr (.inr 15))] [] (cm_hp D X) = cm_x 2 8 [some (.inr (.inr 26)), some (.inr (.inr 15))] [.inl (D 26 1), .inr (.inr 27)] (cm_hp D X) := (cm_un_eq [8] 2 6 0 _ _ _).symm.trans rfl
theorem sg_kp_8 (D : Nat → Int → Int) (X : cm_X) (q : Int) : cm_x 2 8 [some (.inr (.inr 26)), some (.inr (.inr 15))] [.inl q, .inr (.inr 27)] (cm_hp D X) = cm_ck (0 ≤ q ∧ q < 40) (cm_ck (cm_R0 27 q < 300000) (cm_x 2 9 [some (.inr (.inr 26)), some (.inr (.inr 15))] [.inr (.inr (cm_R0 27 q))] (cm_hp D X))) := (cm_x_eq _ _ _ _ _).trans rfl
theorem sg_bk_0 (D : Nat → Int → Int) (X : cm_X) : cm_x 3 0 [some (.inr (.inr 26)), some (.inr (.inr 15))] [] (cm_hp D X) = (if 0 < D 26 1 then cm_x 3 31 [some (.inr (.inr 26)), some (.inr (.inr 15))] [.inl (cm_wr (D 26 1 - 1)), .inr (.inr 27), .inr (.inr 15)] (cm_hp (cm_up D 26 1 (cm_wr (D 26 1 - 1))) X) else cm_x 3 31 [some (.inr (.inr 26)), some (.inr (.inr 15))] [.inl 39, .inr (.inr 27), .inr (.inr 15)] (cm_hp (cm_up D 26 1 39) X)) := (cm_un_eq [31] 3 20 0 _ _ _).symm.trans rfl
theorem sg_bk_31 (D : Nat → Int → Int) (X : cm_X) (q : Int) : cm_x 3 31 [some (.inr (.inr 26)), some (.inr (.inr 15))] [.inl q, .inr (.inr 27), .inr (.inr 15)] (cm_hp D X) = cm_ck (0 ≤ q ∧ q < 40) (cm_ck (cm_R0 27 q < 300000) (cm_x 3 32 [some (.inr (.inr 26)), some (.inr (.inr 15))] [.inr (.inr (cm_R0 27 q)), .inr (.inr 15)] (cm_hp D X))) := (cm_x_eq _ _ _ _ _).trans rfl
def sg_kp_9P (k : Nat) : Prop := ∀ (D : Nat → Int → Int) (X : cm_X) (x : Int), cm_x 2 9 [some (.inr (.inr 26)), some (.inr (.inr 15))] [.inr (.inr (28 + 7 * k))] (cm_hp D X) = cm_aft 2 10 13 [some (.inr (.inr 26)), some (.inr (.inr 15))] [] (cm_x 62 0 [some (.inr (.inr (28 + 7 * k))), some (.inr (.inr 15)), none] [] (cm_hp D X))
theorem sg_kp_9_0 : sg_kp_9P 0 := fun D X x => (cm_un_eq [13] 2 3 9 _ _ _).symm.trans rfl
theorem sg_kp_9_1 : sg_kp_9P 1 := fun D X x => (cm_un_eq [13] 2 3 9 _ _ _).symm.trans rfl
theorem sg_kp_9_2 : sg_kp_9P 2 := fun D X x => (cm_un_eq [13] 2 3 9 _ _ _).symm.trans rfl
theorem sg_kp_9_3 : sg_kp_9P 3 := fun D X x => (cm_un_eq [13] 2 3 9 _ _ _).symm.trans rfl
theorem sg_kp_9_4 : sg_kp_9P 4 := fun D X x => (cm_un_eq [13] 2 3 9 _ _ _).symm.trans rfl
theorem sg_kp_9_5 : sg_kp_9P 5 := fun D X x => (cm_un_eq [13] 2 3 9 _ _ _).symm.trans rfl
theorem sg_kp_9_6 : sg_kp_9P 6 := fun D X x => (cm_un_eq [13] 2 3 9 _ _ _).symm.trans rfl
theorem sg_kp_9_7 : sg_kp_9P 7 := fun D X x => (cm_un_eq [13] 2 3 9 _ _ _).symm.trans rfl
theorem sg_kp_9_8 : sg_kp_9P 8 := fun D X x => (cm_un_eq [13] 2 3 9 _ _ _).symm.trans rfl
theorem sg_kp_9_9 : sg_kp_9P 9 := fun D X x => (cm_un_eq [13] 2 3 9 _ _ _).symm.trans rfl
theorem sg_kp_9_10 : sg_kp_9P 10 := fun D X x => (cm_un_eq [13] 2 3 9 _ _ _).symm.trans rfl
theorem sg_kp_9_11 : sg_kp_9P 11 := fun D X x => (cm_un_eq [13] 2 3 9 _ _ _).symm.trans rfl
theorem sg_kp_9_12 : sg_kp_9P 12 := fun D X x => (cm_un_eq [13] 2 3 9 _ _ _).symm.trans rfl
theorem sg_kp_9_13 : sg_kp_9P 13 := fun D X x => (cm_un_eq [13] 2 3 9 _ _ _).symm.trans rfl
theorem sg_kp_9_14 : sg_kp_9P 14 := fun D X x => (cm_un_eq [13] 2 3 9 _ _ _).symm.trans rfl
theorem sg_kp_9_15 : sg_kp_9P 15 := fun D X x => (cm_un_eq [13] 2 3 9 _ _ _).symm.trans rfl
theorem sg_kp_9_16 : sg_kp_9P 16 := fun D X x => (cm_un_eq [13] 2 3 9 _ _ _).symm.trans rfl
theorem sg_kp_9_17 : sg_kp_9P 17 := fun D X x => (cm_un_eq [13] 2 3 9 _ _ _).symm.trans rfl
theorem sg_kp_9_18 : sg_kp_9P 18 := fun D X x => (cm_un_eq [13] 2 3 9 _ _ _).symm.trans rfl
theorem sg_kp_9_19 : sg_kp_9P 19 := fun D X x => (cm_un_eq [13] 2 3 9 _ _ _).symm.trans rfl
theorem sg_kp_9_20 : sg_kp_9P 20 := fun D X x => (cm_un_eq [13] 2 3 9 _ _ _).symm.trans rfl
theorem sg_kp_9_21 : sg_kp_9P 21 := fun D X x => (cm_un_eq [13] 2 3 9 _ _ _).symm.trans rfl
theorem sg_kp_9_22 : sg_kp_9P 22 := fun D X x => (cm_un_eq [13] 2 3 9 _ _ _).symm.trans rfl
theorem sg_kp_9_23 : sg_kp_9P 23 := fun D X x => (cm_un_eq [13] 2 3 9 _ _ _).symm.trans rfl
theorem sg_kp_9_24 : sg_kp_9P 24 := fun D X x => (cm_un_eq [13] 2 3 9 _ _ _).symm.trans rfl
theorem sg_kp_9_25 : sg_kp_9P 25 := fun D X x => (cm_un_eq [13] 2 3 9 _ _ _).symm.trans rfl
theorem sg_kp_9_26 : sg_kp_9P 26 := fun D X x => (cm_un_eq [13] 2 3 9 _ _ _).symm.trans rfl
theorem sg_kp_9_27 : sg_kp_9P 27 := fun D X x => (cm_un_eq [13] 2 3 9 _ _ _).symm.trans rfl
theorem sg_kp_9_28 : sg_kp_9P 28 := fun D X x => (cm_un_eq [13] 2 3 9 _ _ _).symm.trans rfl
theorem sg_kp_9_29 : sg_kp_9P 29 := fun D X x => (cm_un_eq [13] 2 3 9 _ _ _).symm.trans rfl
theorem sg_kp_9_30 : sg_kp_9P 30 := fun D X x => (cm_un_eq [13] 2 3 9 _ _ _).symm.trans rfl
theorem sg_kp_9_31 : sg_kp_9P 31 := fun D X x => (cm_un_eq [13] 2 3 9 _ _ _).symm.trans rfl
theorem sg_kp_9_32 : sg_kp_9P 32 := fun D X x => (cm_un_eq [13] 2 3 9 _ _ _).symm.trans rfl
theorem sg_kp_9_33 : sg_kp_9P 33 := fun D X x => (cm_un_eq [13] 2 3 9 _ _ _).symm.trans rfl
theorem sg_kp_9_34 : sg_kp_9P 34 := fun D X x => (cm_un_eq [13] 2 3 9 _ _ _).symm.trans rfl
theorem sg_kp_9_35 : sg_kp_9P 35 := fun D X x => (cm_un_eq [13] 2 3 9 _ _ _).symm.trans rfl
theorem sg_kp_9_36 : sg_kp_9P 36 := fun D X x => (cm_un_eq [13] 2 3 9 _ _ _).symm.trans rfl
theorem sg_kp_9_37 : sg_kp_9P 37 := fun D X x => (cm_un_eq [13] 2 3 9 _ _ _).symm.trans rfl
theorem sg_kp_9_38 : sg_kp_9P 38 := fun D X x => (cm_un_eq [13] 2 3 9 _ _ _).symm.trans rfl
theorem sg_kp_9_39 : sg_kp_9P 39 := fun D X x => (cm_un_eq [13] 2 3 9 _ _ _).symm.trans rfl
theorem sg_kp_9 {q : Int} (h : q < 40) (D : Nat → Int → Int) (X : cm_X) (x : Int) : cm_x 2 9 [some (.inr (.inr 26)), some (.inr (.inr 15))] [.inr (.inr (adr q))] (cm_hp D X) = cm_aft 2 10 13 [some (.inr (.inr 26)), some (.inr (.inr 15))] [] (cm_x 62 0 [some (.inr (.inr (adr q))), some (.inr (.inr 15)), none] [] (cm_hp D X)) := by
  have key : ∀ k : Nat, k < 40 → sg_kp_9P k := by
    intro k hk
    have hk : k = 0 ∨ k = 1 ∨ k = 2 ∨ k = 3 ∨ k = 4 ∨ k = 5 ∨ k = 6 ∨ k = 7 ∨ k = 8 ∨ k = 9 ∨ k = 10 ∨ k = 11 ∨ k = 12 ∨ k = 13 ∨ k = 14 ∨ k = 15 ∨ k = 16 ∨ k = 17 ∨ k = 18 ∨ k = 19 ∨ k = 20 ∨ k = 21 ∨ k = 22 ∨ k = 23 ∨ k = 24 ∨ k = 25 ∨ k = 26 ∨ k = 27 ∨ k = 28 ∨ k = 29 ∨ k = 30 ∨ k = 31 ∨ k = 32 ∨ k = 33 ∨ k = 34 ∨ k = 35 ∨ k = 36 ∨ k = 37 ∨ k = 38 ∨ k = 39 := by omega
    rcases hk with rfl | rfl | rfl | rfl | rfl | rfl | rfl | rfl | rfl | rfl | rfl | rfl | rfl | rfl | rfl | rfl | rfl | rfl | rfl | rfl | rfl | rfl | rfl | rfl | rfl | rfl | rfl | rfl | rfl | rfl | rfl | rfl | rfl | rfl | rfl | rfl | rfl | rfl | rfl | rfl
    · exact sg_kp_9_0
    · exact sg_kp_9_1
    · exact sg_kp_9_2
    · exact sg_kp_9_3
    · exact sg_kp_9_4
    · exact sg_kp_9_5
    · exact sg_kp_9_6
    · exact sg_kp_9_7
    · exact sg_kp_9_8
    · exact sg_kp_9_9
    · exact sg_kp_9_10
    · exact sg_kp_9_11
    · exact sg_kp_9_12
    · exact sg_kp_9_13
    · exact sg_kp_9_14
    · exact sg_kp_9_15
    · exact sg_kp_9_16
    · exact sg_kp_9_17
    · exact sg_kp_9_18
    · exact sg_kp_9_19
    · exact sg_kp_9_20
    · exact sg_kp_9_21
    · exact sg_kp_9_22
    · exact sg_kp_9_23
    · exact sg_kp_9_24
    · exact sg_kp_9_25
    · exact sg_kp_9_26
    · exact sg_kp_9_27
    · exact sg_kp_9_28
    · exact sg_kp_9_29
    · exact sg_kp_9_30
    · exact sg_kp_9_31
    · exact sg_kp_9_32
    · exact sg_kp_9_33
    · exact sg_kp_9_34
    · exact sg_kp_9_35
    · exact sg_kp_9_36
    · exact sg_kp_9_37
    · exact sg_kp_9_38
    · exact sg_kp_9_39
  exact key q.toNat (by omega) D X x
def sg_bk_32P (k : Nat) : Prop := ∀ (D : Nat → Int → Int) (X : cm_X) (x : Int), cm_x 3 32 [some (.inr (.inr 26)), some (.inr (.inr 15))] [.inr (.inr (28 + 7 * k)), .inr (.inr 15)] (cm_hp D X) = cm_aft 3 32 35 [some (.inr (.inr 26)), some (.inr (.inr 15))] [] (cm_x 62 0 [some (.inr (.inr 15)), some (.inr (.inr (28 + 7 * k))), none] [] (cm_hp D X))
theorem sg_bk_32_0 : sg_bk_32P 0 := fun D X x => (cm_un_eq [35] 3 2 32 _ _ _).symm.trans rfl
theorem sg_bk_32_1 : sg_bk_32P 1 := fun D X x => (cm_un_eq [35] 3 2 32 _ _ _).symm.trans rfl
theorem sg_bk_32_2 : sg_bk_32P 2 := fun D X x => (cm_un_eq [35] 3 2 32 _ _ _).symm.trans rfl
theorem sg_bk_32_3 : sg_bk_32P 3 := fun D X x => (cm_un_eq [35] 3 2 32 _ _ _).symm.trans rfl
theorem sg_bk_32_4 : sg_bk_32P 4 := fun D X x => (cm_un_eq [35] 3 2 32 _ _ _).symm.trans rfl
theorem sg_bk_32_5 : sg_bk_32P 5 := fun D X x => (cm_un_eq [35] 3 2 32 _ _ _).symm.trans rfl
theorem sg_bk_32_6 : sg_bk_32P 6 := fun D X x => (cm_un_eq [35] 3 2 32 _ _ _).symm.trans rfl
theorem sg_bk_32_7 : sg_bk_32P 7 := fun D X x => (cm_un_eq [35] 3 2 32 _ _ _).symm.trans rfl
theorem sg_bk_32_8 : sg_bk_32P 8 := fun D X x => (cm_un_eq [35] 3 2 32 _ _ _).symm.trans rfl
theorem sg_bk_32_9 : sg_bk_32P 9 := fun D X x => (cm_un_eq [35] 3 2 32 _ _ _).symm.trans rfl
theorem sg_bk_32_10 : sg_bk_32P 10 := fun D X x => (cm_un_eq [35] 3 2 32 _ _ _).symm.trans rfl
theorem sg_bk_32_11 : sg_bk_32P 11 := fun D X x => (cm_un_eq [35] 3 2 32 _ _ _).symm.trans rfl
theorem sg_bk_32_12 : sg_bk_32P 12 := fun D X x => (cm_un_eq [35] 3 2 32 _ _ _).symm.trans rfl
theorem sg_bk_32_13 : sg_bk_32P 13 := fun D X x => (cm_un_eq [35] 3 2 32 _ _ _).symm.trans rfl
theorem sg_bk_32_14 : sg_bk_32P 14 := fun D X x => (cm_un_eq [35] 3 2 32 _ _ _).symm.trans rfl
theorem sg_bk_32_15 : sg_bk_32P 15 := fun D X x => (cm_un_eq [35] 3 2 32 _ _ _).symm.trans rfl
theorem sg_bk_32_16 : sg_bk_32P 16 := fun D X x => (cm_un_eq [35] 3 2 32 _ _ _).symm.trans rfl
theorem sg_bk_32_17 : sg_bk_32P 17 := fun D X x => (cm_un_eq [35] 3 2 32 _ _ _).symm.trans rfl
theorem sg_bk_32_18 : sg_bk_32P 18 := fun D X x => (cm_un_eq [35] 3 2 32 _ _ _).symm.trans rfl
theorem sg_bk_32_19 : sg_bk_32P 19 := fun D X x => (cm_un_eq [35] 3 2 32 _ _ _).symm.trans rfl
theorem sg_bk_32_20 : sg_bk_32P 20 := fun D X x => (cm_un_eq [35] 3 2 32 _ _ _).symm.trans rfl
theorem sg_bk_32_21 : sg_bk_32P 21 := fun D X x => (cm_un_eq [35] 3 2 32 _ _ _).symm.trans rfl
theorem sg_bk_32_22 : sg_bk_32P 22 := fun D X x => (cm_un_eq [35] 3 2 32 _ _ _).symm.trans rfl
theorem sg_bk_32_23 : sg_bk_32P 23 := fun D X x => (cm_un_eq [35] 3 2 32 _ _ _).symm.trans rfl
theorem sg_bk_32_24 : sg_bk_32P 24 := fun D X x => (cm_un_eq [35] 3 2 32 _ _ _).symm.trans rfl
theorem sg_bk_32_25 : sg_bk_32P 25 := fun D X x => (cm_un_eq [35] 3 2 32 _ _ _).symm.trans rfl
theorem sg_bk_32_26 : sg_bk_32P 26 := fun D X x => (cm_un_eq [35] 3 2 32 _ _ _).symm.trans rfl
theorem sg_bk_32_27 : sg_bk_32P 27 := fun D X x => (cm_un_eq [35] 3 2 32 _ _ _).symm.trans rfl
theorem sg_bk_32_28 : sg_bk_32P 28 := fun D X x => (cm_un_eq [35] 3 2 32 _ _ _).symm.trans rfl
theorem sg_bk_32_29 : sg_bk_32P 29 := fun D X x => (cm_un_eq [35] 3 2 32 _ _ _).symm.trans rfl
theorem sg_bk_32_30 : sg_bk_32P 30 := fun D X x => (cm_un_eq [35] 3 2 32 _ _ _).symm.trans rfl
theorem sg_bk_32_31 : sg_bk_32P 31 := fun D X x => (cm_un_eq [35] 3 2 32 _ _ _).symm.trans rfl
theorem sg_bk_32_32 : sg_bk_32P 32 := fun D X x => (cm_un_eq [35] 3 2 32 _ _ _).symm.trans rfl
theorem sg_bk_32_33 : sg_bk_32P 33 := fun D X x => (cm_un_eq [35] 3 2 32 _ _ _).symm.trans rfl
theorem sg_bk_32_34 : sg_bk_32P 34 := fun D X x => (cm_un_eq [35] 3 2 32 _ _ _).symm.trans rfl
theorem sg_bk_32_35 : sg_bk_32P 35 := fun D X x => (cm_un_eq [35] 3 2 32 _ _ _).symm.trans rfl
theorem sg_bk_32_36 : sg_bk_32P 36 := fun D X x => (cm_un_eq [35] 3 2 32 _ _ _).symm.trans rfl
theorem sg_bk_32_37 : sg_bk_32P 37 := fun D X x => (cm_un_eq [35] 3 2 32 _ _ _).symm.trans rfl
theorem sg_bk_32_38 : sg_bk_32P 38 := fun D X x => (cm_un_eq [35] 3 2 32 _ _ _).symm.trans rfl
theorem sg_bk_32_39 : sg_bk_32P 39 := fun D X x => (cm_un_eq [35] 3 2 32 _ _ _).symm.trans rfl
theorem sg_bk_32 {q : Int} (h : q < 40) (D : Nat → Int → Int) (X : cm_X) (x : Int) : cm_x 3 32 [some (.inr (.inr 26)), some (.inr (.inr 15))] [.inr (.inr (adr q)), .inr (.inr 15)] (cm_hp D X) = cm_aft 3 32 35 [some (.inr (.inr 26)), some (.inr (.inr 15))] [] (cm_x 62 0 [some (.inr (.inr 15)), some (.inr (.inr (adr q))), none] [] (cm_hp D X)) := by
  have key : ∀ k : Nat, k < 40 → sg_bk_32P k := by
    intro k hk
    have hk : k = 0 ∨ k = 1 ∨ k = 2 ∨ k = 3 ∨ k = 4 ∨ k = 5 ∨ k = 6 ∨ k = 7 ∨ k = 8 ∨ k = 9 ∨ k = 10 ∨ k = 11 ∨ k = 12 ∨ k = 13 ∨ k = 14 ∨ k = 15 ∨ k = 16 ∨ k = 17 ∨ k = 18 ∨ k = 19 ∨ k = 20 ∨ k = 21 ∨ k = 22 ∨ k = 23 ∨ k = 24 ∨ k = 25 ∨ k = 26 ∨ k = 27 ∨ k = 28 ∨ k = 29 ∨ k = 30 ∨ k = 31 ∨ k = 32 ∨ k = 33 ∨ k = 34 ∨ k = 35 ∨ k = 36 ∨ k = 37 ∨ k = 38 ∨ k = 39 := by omega
    rcases hk with rfl | rfl | rfl | rfl | rfl | rfl | rfl | rfl | rfl | rfl | rfl | rfl | rfl | rfl | rfl | rfl | rfl | rfl | rfl | rfl | rfl | rfl | rfl | rfl | rfl | rfl | rfl | rfl | rfl | rfl | rfl | rfl | rfl | rfl | rfl | rfl | rfl | rfl | rfl | rfl
    · exact sg_bk_32_0
    · exact sg_bk_32_1
    · exact sg_bk_32_2
    · exact sg_bk_32_3
    · exact sg_bk_32_4
    · exact sg_bk_32_5
    · exact sg_bk_32_6
    · exact sg_bk_32_7
    · exact sg_bk_32_8
    · exact sg_bk_32_9
    · exact sg_bk_32_10
    · exact sg_bk_32_11
    · exact sg_bk_32_12
    · exact sg_bk_32_13
    · exact sg_bk_32_14
    · exact sg_bk_32_15
    · exact sg_bk_32_16
    · exact sg_bk_32_17
    · exact sg_bk_32_18
    · exact sg_bk_32_19
    · exact sg_bk_32_20
    · exact sg_bk_32_21
    · exact sg_bk_32_22
    · exact sg_bk_32_23
    · exact sg_bk_32_24
    · exact sg_bk_32_25
    · exact sg_bk_32_26
    · exact sg_bk_32_27
    · exact sg_bk_32_28
    · exact sg_bk_32_29
    · exact sg_bk_32_30
    · exact sg_bk_32_31
    · exact sg_bk_32_32
    · exact sg_bk_32_33
    · exact sg_bk_32_34
    · exact sg_bk_32_35
    · exact sg_bk_32_36
    · exact sg_bk_32_37
    · exact sg_bk_32_38
    · exact sg_bk_32_39
  exact key q.toNat (by omega) D X x
theorem sg_kp_13 (D : Nat → Int → Int) (X : cm_X) : cm_x 2 13 [some (.inr (.inr 26)), some (.inr (.inr 15))] [] (cm_hp D X) = (if cm_wr (D 26 1 + 1) < 40 then some (.inl none, cm_hp (cm_up (cm_up D 26 1 (cm_wr (D 26 1 + 1))) 26 2 (cm_mn (cm_wr (D 26 2 + 1)) 40)) X) else some (.inl none, cm_hp (cm_up (cm_up D 26 1 0) 26 2 (cm_mn (cm_wr (D 26 2 + 1)) 40)) X)) := (cm_un_eq [] 2 24 13 _ _ _).symm.trans rfl
theorem sg_bk_35 (D : Nat → Int → Int) (X : cm_X) : cm_x 3 35 [some (.inr (.inr 26)), some (.inr (.inr 15))] [] (cm_hp D X) = some (.inl none, cm_hp (cm_up D 26 2 (cm_wr (D 26 2 - 1))) X) := (cm_un_eq [] 3 9 35 _ _ _).symm.trans rfl
theorem sg_atr_0 (D : Nat → Int → Int) (X : cm_X) : cm_x 4 0 [some (.inr (.inr 26)), some (.inr (.inr 322)), none] [] (cm_hp D X) = cm_x 4 2 [some (.inr (.inr 26)), some (.inr (.inr 322)), some (.inl 0)] [] (cm_hp D X) := (cm_un_eq [2] 4 4 0 _ _ _).symm.trans rfl
theorem sg_atr_2 (D : Nat → Int → Int) (X : cm_X) (x : Int) : cm_x 4 2 [some (.inr (.inr 26)), some (.inr (.inr 322)), some (.inl x)] [] (cm_hp D X) = (if x < 40 then cm_x 4 13 [some (.inr (.inr 26)), some (.inr (.inr 322)), some (.inl x)] [.inl x, .inr (.inr 27)] (cm_hp D X) else some (.inl none, cm_hp (cm_up (cm_up D 26 1 (D 322 1)) 26 2 (D 322 2)) X)) := (cm_un_eq [13] 4 16 2 _ _ _).symm.trans rfl
theorem sg_atr_13 (D : Nat → Int → Int) (X : cm_X) (x : Int) : cm_x 4 13 [some (.inr (.inr 26)), some (.inr (.inr 322)), some (.inl x)] [.inl x, .inr (.inr 27)] (cm_hp D X) = cm_ck (0 ≤ x ∧ x < 40) (cm_ck (cm_R0 27 x < 300000) (cm_x 4 14 [some (.inr (.inr 26)), some (.inr (.inr 322)), some (.inl x)] [.inr (.inr (cm_R0 27 x))] (cm_hp D X))) := (cm_x_eq _ _ _ _ _).trans rfl
theorem sg_atr_14 (D : Nat → Int → Int) (X : cm_X) (x : Int) (a : Nat) : cm_x 4 14 [some (.inr (.inr 26)), some (.inr (.inr 322)), some (.inl x)] [.inr (.inr a)] (cm_hp D X) = cm_x 4 19 [some (.inr (.inr 26)), some (.inr (.inr 322)), some (.inl x)] [.inl x, .inr (.inr 323), .inr (.inr a)] (cm_hp D X) := (cm_un_eq [19] 4 5 14 _ _ _).symm.trans rfl
theorem sg_atr_19 (D : Nat → Int → Int) (X : cm_X) (x : Int) (a : Nat) : cm_x 4 19 [some (.inr (.inr 26)), some (.inr (.inr 322)), some (.inl x)] [.inl x, .inr (.inr 323), .inr (.inr a)] (cm_hp D X) = cm_ck (0 ≤ x ∧ x < 40) (cm_ck (cm_R0 323 x < 300000) (cm_x 4 20 [some (.inr (.inr 26)), some (.inr (.inr 322)), some (.inl x)] [.inr (.inr (cm_R0 323 x)), .inr (.inr a)] (cm_hp D X))) := (cm_x_eq _ _ _ _ _).trans rfl
def sg_atr_20P (k : Nat) : Prop := ∀ (D : Nat → Int → Int) (X : cm_X) (x : Int), cm_x 4 20 [some (.inr (.inr 26)), some (.inr (.inr 322)), some (.inl x)] [.inr (.inr (324 + 7 * k)), .inr (.inr (28 + 7 * k))] (cm_hp D X) = cm_aft 4 20 23 [some (.inr (.inr 26)), some (.inr (.inr 322)), some (.inl x)] [] (cm_x 62 0 [some (.inr (.inr (28 + 7 * k))), some (.inr (.inr (324 + 7 * k))), none] [] (cm_hp D X))
theorem sg_atr_20_0 : sg_atr_20P 0 := fun D X x => (cm_un_eq [23] 4 2 20 _ _ _).symm.trans rfl
theorem sg_atr_20_1 : sg_atr_20P 1 := fun D X x => (cm_un_eq [23] 4 2 20 _ _ _).symm.trans rfl
theorem sg_atr_20_2 : sg_atr_20P 2 := fun D X x => (cm_un_eq [23] 4 2 20 _ _ _).symm.trans rfl
theorem sg_atr_20_3 : sg_atr_20P 3 := fun D X x => (cm_un_eq [23] 4 2 20 _ _ _).symm.trans rfl
theorem sg_atr_20_4 : sg_atr_20P 4 := fun D X x => (cm_un_eq [23] 4 2 20 _ _ _).symm.trans rfl
theorem sg_atr_20_5 : sg_atr_20P 5 := fun D X x => (cm_un_eq [23] 4 2 20 _ _ _).symm.trans rfl
theorem sg_atr_20_6 : sg_atr_20P 6 := fun D X x => (cm_un_eq [23] 4 2 20 _ _ _).symm.trans rfl
theorem sg_atr_20_7 : sg_atr_20P 7 := fun D X x => (cm_un_eq [23] 4 2 20 _ _ _).symm.trans rfl
theorem sg_atr_20_8 : sg_atr_20P 8 := fun D X x => (cm_un_eq [23] 4 2 20 _ _ _).symm.trans rfl
theorem sg_atr_20_9 : sg_atr_20P 9 := fun D X x => (cm_un_eq [23] 4 2 20 _ _ _).symm.trans rfl
theorem sg_atr_20_10 : sg_atr_20P 10 := fun D X x => (cm_un_eq [23] 4 2 20 _ _ _).symm.trans rfl
theorem sg_atr_20_11 : sg_atr_20P 11 := fun D X x => (cm_un_eq [23] 4 2 20 _ _ _).symm.trans rfl
theorem sg_atr_20_12 : sg_atr_20P 12 := fun D X x => (cm_un_eq [23] 4 2 20 _ _ _).symm.trans rfl
theorem sg_atr_20_13 : sg_atr_20P 13 := fun D X x => (cm_un_eq [23] 4 2 20 _ _ _).symm.trans rfl
theorem sg_atr_20_14 : sg_atr_20P 14 := fun D X x => (cm_un_eq [23] 4 2 20 _ _ _).symm.trans rfl
theorem sg_atr_20_15 : sg_atr_20P 15 := fun D X x => (cm_un_eq [23] 4 2 20 _ _ _).symm.trans rfl
theorem sg_atr_20_16 : sg_atr_20P 16 := fun D X x => (cm_un_eq [23] 4 2 20 _ _ _).symm.trans rfl
theorem sg_atr_20_17 : sg_atr_20P 17 := fun D X x => (cm_un_eq [23] 4 2 20 _ _ _).symm.trans rfl
theorem sg_atr_20_18 : sg_atr_20P 18 := fun D X x => (cm_un_eq [23] 4 2 20 _ _ _).symm.trans rfl
theorem sg_atr_20_19 : sg_atr_20P 19 := fun D X x => (cm_un_eq [23] 4 2 20 _ _ _).symm.trans rfl
theorem sg_atr_20_20 : sg_atr_20P 20 := fun D X x => (cm_un_eq [23] 4 2 20 _ _ _).symm.trans rfl
theorem sg_atr_20_21 : sg_atr_20P 21 := fun D X x => (cm_un_eq [23] 4 2 20 _ _ _).symm.trans rfl
theorem sg_atr_20_22 : sg_atr_20P 22 := fun D X x => (cm_un_eq [23] 4 2 20 _ _ _).symm.trans rfl
theorem sg_atr_20_23 : sg_atr_20P 23 := fun D X x => (cm_un_eq [23] 4 2 20 _ _ _).symm.trans rfl
theorem sg_atr_20_24 : sg_atr_20P 24 := fun D X x => (cm_un_eq [23] 4 2 20 _ _ _).symm.trans rfl
theorem sg_atr_20_25 : sg_atr_20P 25 := fun D X x => (cm_un_eq [23] 4 2 20 _ _ _).symm.trans rfl
theorem sg_atr_20_26 : sg_atr_20P 26 := fun D X x => (cm_un_eq [23] 4 2 20 _ _ _).symm.trans rfl
theorem sg_atr_20_27 : sg_atr_20P 27 := fun D X x => (cm_un_eq [23] 4 2 20 _ _ _).symm.trans rfl
theorem sg_atr_20_28 : sg_atr_20P 28 := fun D X x => (cm_un_eq [23] 4 2 20 _ _ _).symm.trans rfl
theorem sg_atr_20_29 : sg_atr_20P 29 := fun D X x => (cm_un_eq [23] 4 2 20 _ _ _).symm.trans rfl
theorem sg_atr_20_30 : sg_atr_20P 30 := fun D X x => (cm_un_eq [23] 4 2 20 _ _ _).symm.trans rfl
theorem sg_atr_20_31 : sg_atr_20P 31 := fun D X x => (cm_un_eq [23] 4 2 20 _ _ _).symm.trans rfl
theorem sg_atr_20_32 : sg_atr_20P 32 := fun D X x => (cm_un_eq [23] 4 2 20 _ _ _).symm.trans rfl
theorem sg_atr_20_33 : sg_atr_20P 33 := fun D X x => (cm_un_eq [23] 4 2 20 _ _ _).symm.trans rfl
theorem sg_atr_20_34 : sg_atr_20P 34 := fun D X x => (cm_un_eq [23] 4 2 20 _ _ _).symm.trans rfl
theorem sg_atr_20_35 : sg_atr_20P 35 := fun D X x => (cm_un_eq [23] 4 2 20 _ _ _).symm.trans rfl
theorem sg_atr_20_36 : sg_atr_20P 36 := fun D X x => (cm_un_eq [23] 4 2 20 _ _ _).symm.trans rfl
theorem sg_atr_20_37 : sg_atr_20P 37 := fun D X x => (cm_un_eq [23] 4 2 20 _ _ _).symm.trans rfl
theorem sg_atr_20_38 : sg_atr_20P 38 := fun D X x => (cm_un_eq [23] 4 2 20 _ _ _).symm.trans rfl
theorem sg_atr_20_39 : sg_atr_20P 39 := fun D X x => (cm_un_eq [23] 4 2 20 _ _ _).symm.trans rfl
theorem sg_atr_20 {q : Int} (h : q < 40) (D : Nat → Int → Int) (X : cm_X) (x : Int) : cm_x 4 20 [some (.inr (.inr 26)), some (.inr (.inr 322)), some (.inl x)] [.inr (.inr (bdr q)), .inr (.inr (adr q))] (cm_hp D X) = cm_aft 4 20 23 [some (.inr (.inr 26)), some (.inr (.inr 322)), some (.inl x)] [] (cm_x 62 0 [some (.inr (.inr (adr q))), some (.inr (.inr (bdr q))), none] [] (cm_hp D X)) := by
  have key : ∀ k : Nat, k < 40 → sg_atr_20P k := by
    intro k hk
    have hk : k = 0 ∨ k = 1 ∨ k = 2 ∨ k = 3 ∨ k = 4 ∨ k = 5 ∨ k = 6 ∨ k = 7 ∨ k = 8 ∨ k = 9 ∨ k = 10 ∨ k = 11 ∨ k = 12 ∨ k = 13 ∨ k = 14 ∨ k = 15 ∨ k = 16 ∨ k = 17 ∨ k = 18 ∨ k = 19 ∨ k = 20 ∨ k = 21 ∨ k = 22 ∨ k = 23 ∨ k = 24 ∨ k = 25 ∨ k = 26 ∨ k = 27 ∨ k = 28 ∨ k = 29 ∨ k = 30 ∨ k = 31 ∨ k = 32 ∨ k = 33 ∨ k = 34 ∨ k = 35 ∨ k = 36 ∨ k = 37 ∨ k = 38 ∨ k = 39 := by omega
    rcases hk with rfl | rfl | rfl | rfl | rfl | rfl | rfl | rfl | rfl | rfl | rfl | rfl | rfl | rfl | rfl | rfl | rfl | rfl | rfl | rfl | rfl | rfl | rfl | rfl | rfl | rfl | rfl | rfl | rfl | rfl | rfl | rfl | rfl | rfl | rfl | rfl | rfl | rfl | rfl | rfl
    · exact sg_atr_20_0
    · exact sg_atr_20_1
    · exact sg_atr_20_2
    · exact sg_atr_20_3
    · exact sg_atr_20_4
    · exact sg_atr_20_5
    · exact sg_atr_20_6
    · exact sg_atr_20_7
    · exact sg_atr_20_8
    · exact sg_atr_20_9
    · exact sg_atr_20_10
    · exact sg_atr_20_11
    · exact sg_atr_20_12
    · exact sg_atr_20_13
    · exact sg_atr_20_14
    · exact sg_atr_20_15
    · exact sg_atr_20_16
    · exact sg_atr_20_17
    · exact sg_atr_20_18
    · exact sg_atr_20_19
    · exact sg_atr_20_20
    · exact sg_atr_20_21
    · exact sg_atr_20_22
    · exact sg_atr_20_23
    · exact sg_atr_20_24
    · exact sg_atr_20_25
    · exact sg_atr_20_26
    · exact sg_atr_20_27
    · exact sg_atr_20_28
    · exact sg_atr_20_29
    · exact sg_atr_20_30
    · exact sg_atr_20_31
    · exact sg_atr_20_32
    · exact sg_atr_20_33
    · exact sg_atr_20_34
    · exact sg_atr_20_35
    · exact sg_atr_20_36
    · exact sg_atr_20_37
    · exact sg_atr_20_38
    · exact sg_atr_20_39
  exact key q.toNat (by omega) D X x
theorem sg_atr_23 (D : Nat → Int → Int) (X : cm_X) (x : Int) : cm_x 4 23 [some (.inr (.inr 26)), some (.inr (.inr 322)), some (.inl x)] [] (cm_hp D X) = cm_x 4 2 [some (.inr (.inr 26)), some (.inr (.inr 322)), some (.inl (cm_wr (x + 1)))] [] (cm_hp D X) := (cm_un_eq [2] 4 4 23 _ _ _).symm.trans rfl
theorem sg_ati_0 (D : Nat → Int → Int) (X : cm_X) : cm_x 4 0 [some (.inr (.inr 322)), some (.inr (.inr 26)), none] [] (cm_hp D X) = cm_x 4 2 [some (.inr (.inr 322)), some (.inr (.inr 26)), some (.inl 0)] [] (cm_hp D X) := (cm_un_eq [2] 4 4 0 _ _ _).symm.trans rfl
theorem sg_ati_2 (D : Nat → Int → Int) (X : cm_X) (x : Int) : cm_x 4 2 [some (.inr (.inr 322)), some (.inr (.inr 26)), some (.inl x)] [] (cm_hp D X) = (if x < 40 then cm_x 4 13 [some (.inr (.inr 322)), some (.inr (.inr 26)), some (.inl x)] [.inl x, .inr (.inr 323)] (cm_hp D X) else some (.inl none, cm_hp (cm_up (cm_up D 322 1 (D 26 1)) 322 2 (D 26 2)) X)) := (cm_un_eq [13] 4 16 2 _ _ _).symm.trans rfl
theorem sg_ati_13 (D : Nat → Int → Int) (X : cm_X) (x : Int) : cm_x 4 13 [some (.inr (.inr 322)), some (.inr (.inr 26)), some (.inl x)] [.inl x, .inr (.inr 323)] (cm_hp D X) = cm_ck (0 ≤ x ∧ x < 40) (cm_ck (cm_R0 323 x < 300000) (cm_x 4 14 [some (.inr (.inr 322)), some (.inr (.inr 26)), some (.inl x)] [.inr (.inr (cm_R0 323 x))] (cm_hp D X))) := (cm_x_eq _ _ _ _ _).trans rfl
theorem sg_ati_14 (D : Nat → Int → Int) (X : cm_X) (x : Int) (a : Nat) : cm_x 4 14 [some (.inr (.inr 322)), some (.inr (.inr 26)), some (.inl x)] [.inr (.inr a)] (cm_hp D X) = cm_x 4 19 [some (.inr (.inr 322)), some (.inr (.inr 26)), some (.inl x)] [.inl x, .inr (.inr 27), .inr (.inr a)] (cm_hp D X) := (cm_un_eq [19] 4 5 14 _ _ _).symm.trans rfl
theorem sg_ati_19 (D : Nat → Int → Int) (X : cm_X) (x : Int) (a : Nat) : cm_x 4 19 [some (.inr (.inr 322)), some (.inr (.inr 26)), some (.inl x)] [.inl x, .inr (.inr 27), .inr (.inr a)] (cm_hp D X) = cm_ck (0 ≤ x ∧ x < 40) (cm_ck (cm_R0 27 x < 300000) (cm_x 4 20 [some (.inr (.inr 322)), some (.inr (.inr 26)), some (.inl x)] [.inr (.inr (cm_R0 27 x)), .inr (.inr a)] (cm_hp D X))) := (cm_x_eq _ _ _ _ _).trans rfl
def sg_ati_20P (k : Nat) : Prop := ∀ (D : Nat → Int → Int) (X : cm_X) (x : Int), cm_x 4 20 [some (.inr (.inr 322)), some (.inr (.inr 26)), some (.inl x)] [.inr (.inr (28 + 7 * k)), .inr (.inr (324 + 7 * k))] (cm_hp D X) = cm_aft 4 20 23 [some (.inr (.inr 322)), some (.inr (.inr 26)), some (.inl x)] [] (cm_x 62 0 [some (.inr (.inr (324 + 7 * k))), some (.inr (.inr (28 + 7 * k))), none] [] (cm_hp D X))
theorem sg_ati_20_0 : sg_ati_20P 0 := fun D X x => (cm_un_eq [23] 4 2 20 _ _ _).symm.trans rfl
theorem sg_ati_20_1 : sg_ati_20P 1 := fun D X x => (cm_un_eq [23] 4 2 20 _ _ _).symm.trans rfl
theorem sg_ati_20_2 : sg_ati_20P 2 := fun D X x => (cm_un_eq [23] 4 2 20 _ _ _).symm.trans rfl
theorem sg_ati_20_3 : sg_ati_20P 3 := fun D X x => (cm_un_eq [23] 4 2 20 _ _ _).symm.trans rfl
theorem sg_ati_20_4 : sg_ati_20P 4 := fun D X x => (cm_un_eq [23] 4 2 20 _ _ _).symm.trans rfl
theorem sg_ati_20_5 : sg_ati_20P 5 := fun D X x => (cm_un_eq [23] 4 2 20 _ _ _).symm.trans rfl
theorem sg_ati_20_6 : sg_ati_20P 6 := fun D X x => (cm_un_eq [23] 4 2 20 _ _ _).symm.trans rfl
theorem sg_ati_20_7 : sg_ati_20P 7 := fun D X x => (cm_un_eq [23] 4 2 20 _ _ _).symm.trans rfl
theorem sg_ati_20_8 : sg_ati_20P 8 := fun D X x => (cm_un_eq [23] 4 2 20 _ _ _).symm.trans rfl
theorem sg_ati_20_9 : sg_ati_20P 9 := fun D X x => (cm_un_eq [23] 4 2 20 _ _ _).symm.trans rfl
theorem sg_ati_20_10 : sg_ati_20P 10 := fun D X x => (cm_un_eq [23] 4 2 20 _ _ _).symm.trans rfl
theorem sg_ati_20_11 : sg_ati_20P 11 := fun D X x => (cm_un_eq [23] 4 2 20 _ _ _).symm.trans rfl
theorem sg_ati_20_12 : sg_ati_20P 12 := fun D X x => (cm_un_eq [23] 4 2 20 _ _ _).symm.trans rfl
theorem sg_ati_20_13 : sg_ati_20P 13 := fun D X x => (cm_un_eq [23] 4 2 20 _ _ _).symm.trans rfl
theorem sg_ati_20_14 : sg_ati_20P 14 := fun D X x => (cm_un_eq [23] 4 2 20 _ _ _).symm.trans rfl
theorem sg_ati_20_15 : sg_ati_20P 15 := fun D X x => (cm_un_eq [23] 4 2 20 _ _ _).symm.trans rfl
theorem sg_ati_20_16 : sg_ati_20P 16 := fun D X x => (cm_un_eq [23] 4 2 20 _ _ _).symm.trans rfl
theorem sg_ati_20_17 : sg_ati_20P 17 := fun D X x => (cm_un_eq [23] 4 2 20 _ _ _).symm.trans rfl
theorem sg_ati_20_18 : sg_ati_20P 18 := fun D X x => (cm_un_eq [23] 4 2 20 _ _ _).symm.trans rfl
theorem sg_ati_20_19 : sg_ati_20P 19 := fun D X x => (cm_un_eq [23] 4 2 20 _ _ _).symm.trans rfl
theorem sg_ati_20_20 : sg_ati_20P 20 := fun D X x => (cm_un_eq [23] 4 2 20 _ _ _).symm.trans rfl
theorem sg_ati_20_21 : sg_ati_20P 21 := fun D X x => (cm_un_eq [23] 4 2 20 _ _ _).symm.trans rfl
theorem sg_ati_20_22 : sg_ati_20P 22 := fun D X x => (cm_un_eq [23] 4 2 20 _ _ _).symm.trans rfl
theorem sg_ati_20_23 : sg_ati_20P 23 := fun D X x => (cm_un_eq [23] 4 2 20 _ _ _).symm.trans rfl
theorem sg_ati_20_24 : sg_ati_20P 24 := fun D X x => (cm_un_eq [23] 4 2 20 _ _ _).symm.trans rfl
theorem sg_ati_20_25 : sg_ati_20P 25 := fun D X x => (cm_un_eq [23] 4 2 20 _ _ _).symm.trans rfl
theorem sg_ati_20_26 : sg_ati_20P 26 := fun D X x => (cm_un_eq [23] 4 2 20 _ _ _).symm.trans rfl
theorem sg_ati_20_27 : sg_ati_20P 27 := fun D X x => (cm_un_eq [23] 4 2 20 _ _ _).symm.trans rfl
theorem sg_ati_20_28 : sg_ati_20P 28 := fun D X x => (cm_un_eq [23] 4 2 20 _ _ _).symm.trans rfl
theorem sg_ati_20_29 : sg_ati_20P 29 := fun D X x => (cm_un_eq [23] 4 2 20 _ _ _).symm.trans rfl
theorem sg_ati_20_30 : sg_ati_20P 30 := fun D X x => (cm_un_eq [23] 4 2 20 _ _ _).symm.trans rfl
theorem sg_ati_20_31 : sg_ati_20P 31 := fun D X x => (cm_un_eq [23] 4 2 20 _ _ _).symm.trans rfl
theorem sg_ati_20_32 : sg_ati_20P 32 := fun D X x => (cm_un_eq [23] 4 2 20 _ _ _).symm.trans rfl
theorem sg_ati_20_33 : sg_ati_20P 33 := fun D X x => (cm_un_eq [23] 4 2 20 _ _ _).symm.trans rfl
theorem sg_ati_20_34 : sg_ati_20P 34 := fun D X x => (cm_un_eq [23] 4 2 20 _ _ _).symm.trans rfl
theorem sg_ati_20_35 : sg_ati_20P 35 := fun D X x => (cm_un_eq [23] 4 2 20 _ _ _).symm.trans rfl
theorem sg_ati_20_36 : sg_ati_20P 36 := fun D X x => (cm_un_eq [23] 4 2 20 _ _ _).symm.trans rfl
theorem sg_ati_20_37 : sg_ati_20P 37 := fun D X x => (cm_un_eq [23] 4 2 20 _ _ _).symm.trans rfl
theorem sg_ati_20_38 : sg_ati_20P 38 := fun D X x => (cm_un_eq [23] 4 2 20 _ _ _).symm.trans rfl
theorem sg_ati_20_39 : sg_ati_20P 39 := fun D X x => (cm_un_eq [23] 4 2 20 _ _ _).symm.trans rfl
theorem sg_ati_20 {q : Int} (h : q < 40) (D : Nat → Int → Int) (X : cm_X) (x : Int) : cm_x 4 20 [some (.inr (.inr 322)), some (.inr (.inr 26)), some (.inl x)] [.inr (.inr (adr q)), .inr (.inr (bdr q))] (cm_hp D X) = cm_aft 4 20 23 [some (.inr (.inr 322)), some (.inr (.inr 26)), some (.inl x)] [] (cm_x 62 0 [some (.inr (.inr (bdr q))), some (.inr (.inr (adr q))), none] [] (cm_hp D X)) := by
  have key : ∀ k : Nat, k < 40 → sg_ati_20P k := by
    intro k hk
    have hk : k = 0 ∨ k = 1 ∨ k = 2 ∨ k = 3 ∨ k = 4 ∨ k = 5 ∨ k = 6 ∨ k = 7 ∨ k = 8 ∨ k = 9 ∨ k = 10 ∨ k = 11 ∨ k = 12 ∨ k = 13 ∨ k = 14 ∨ k = 15 ∨ k = 16 ∨ k = 17 ∨ k = 18 ∨ k = 19 ∨ k = 20 ∨ k = 21 ∨ k = 22 ∨ k = 23 ∨ k = 24 ∨ k = 25 ∨ k = 26 ∨ k = 27 ∨ k = 28 ∨ k = 29 ∨ k = 30 ∨ k = 31 ∨ k = 32 ∨ k = 33 ∨ k = 34 ∨ k = 35 ∨ k = 36 ∨ k = 37 ∨ k = 38 ∨ k = 39 := by omega
    rcases hk with rfl | rfl | rfl | rfl | rfl | rfl | rfl | rfl | rfl | rfl | rfl | rfl | rfl | rfl | rfl | rfl | rfl | rfl | rfl | rfl | rfl | rfl | rfl | rfl | rfl | rfl | rfl | rfl | rfl | rfl | rfl | rfl | rfl | rfl | rfl | rfl | rfl | rfl | rfl | rfl
    · exact sg_ati_20_0
    · exact sg_ati_20_1
    · exact sg_ati_20_2
    · exact sg_ati_20_3
    · exact sg_ati_20_4
    · exact sg_ati_20_5
    · exact sg_ati_20_6
    · exact sg_ati_20_7
    · exact sg_ati_20_8
    · exact sg_ati_20_9
    · exact sg_ati_20_10
    · exact sg_ati_20_11
    · exact sg_ati_20_12
    · exact sg_ati_20_13
    · exact sg_ati_20_14
    · exact sg_ati_20_15
    · exact sg_ati_20_16
    · exact sg_ati_20_17
    · exact sg_ati_20_18
    · exact sg_ati_20_19
    · exact sg_ati_20_20
    · exact sg_ati_20_21
    · exact sg_ati_20_22
    · exact sg_ati_20_23
    · exact sg_ati_20_24
    · exact sg_ati_20_25
    · exact sg_ati_20_26
    · exact sg_ati_20_27
    · exact sg_ati_20_28
    · exact sg_ati_20_29
    · exact sg_ati_20_30
    · exact sg_ati_20_31
    · exact sg_ati_20_32
    · exact sg_ati_20_33
    · exact sg_ati_20_34
    · exact sg_ati_20_35
    · exact sg_ati_20_36
    · exact sg_ati_20_37
    · exact sg_ati_20_38
    · exact sg_ati_20_39
  exact key q.toNat (by omega) D X x
theorem sg_ati_23 (D : Nat → Int → Int) (X : cm_X) (x : Int) : cm_x 4 23 [some (.inr (.inr 322)), some (.inr (.inr 26)), some (.inl x)] [] (cm_hp D X) = cm_x 4 2 [some (.inr (.inr 322)), some (.inr (.inr 26)), some (.inl (cm_wr (x + 1)))] [] (cm_hp D X) := (cm_un_eq [2] 4 4 23 _ _ _).symm.trans rfl
