/-! a text that has been read becomes the disc: the relation -/
variable {C C' D E E' F G : Nat → Int → Int} {X Y : cm_X} {K B g : Int → Int} {len pk t : Int}
theorem st_R (hT : tkQ C G (C 2 13)) (hf : flR C E) (hg : ∀ j, 0 ≤ j → j < 246 → g j = E 618 j) : rS (stt G 15) g ∧ wS pk K B (stt G 15) := by
  obtain ⟨q1, q2, q3, q4, q5, q6, q7, q8, q9⟩ := hT
  obtain ⟨f1, f2, f3, f4, f5, f6, f7, f8, f9, f10, f11⟩ := hf
  -- a name is told, or it isn't
  have cs : ∀ n, 0 ≤ n → n < 12 → (∃ i, (0 ≤ i ∧ i < C 2 13) ∧ C 6 i = n ∧ G 16 n = i + 1 ∧ G 17 n = C 7 i ∧ G 18 n = 1 ∧ (0 ≤ C 7 i ∧ C 7 i ≤ 8) ∧ g n = i + 1 ∧ g (12 + n) = C 7 i ∧ g (24 + n) = 1 ∧ ∀ c, 0 ≤ c → c < C 7 i → G 19 (n * 8 + c) = -1 ∧ G 20 (n * 8 + c) = C 8 (i * 8 + c) ∧ g (132 + 8 * n + c) = C 8 (i * 8 + c)) ∨ (G 16 n = 0 ∧ G 17 n = 0 ∧ G 18 n = 0 ∧ g n = -1 ∧ g (12 + n) = 0 ∧ g (24 + n) = 0) := fun n n0 n1 => by
    by_cases ht : tldF C n
    · obtain ⟨i, i0, i1, e⟩ := ht
      obtain ⟨a1, a2, a3, a4⟩ := q1 i i0 i1
      obtain ⟨b1, b2, b3, b4, b5, b6⟩ := f3 i i0 i1
      rw [e] at a1 a2 a3 a4 b2 b3 b5 b6
      refine Or.inl ⟨i, ⟨i0, i1⟩, e, a1, a2, a3, b4, by rw [hg n n0 (by omega)]; exact b2, by rw [hg _ (by omega) (by omega)]; exact b3, by rw [hg _ (by omega) (by omega)]; exact b5, fun c c0 c1 => ?_⟩
      have z := a4 c c0 c1
      exact ⟨z.1, z.2, by rw [hg _ (by omega) (by omega)]; exact b6 c c0 c1⟩
    · have hno : ∀ i, 0 ≤ i → i < C 2 13 → C 6 i ≠ n := fun i a b c => ht ⟨i, a, b, c⟩
      obtain ⟨a1, a2, a3⟩ := q2 n n0 n1 hno
      obtain ⟨b1, b2, b3⟩ := f4 n n0 n1 hno
      exact Or.inr ⟨a1, a2, a3, by rw [hg n n0 (by omega)]; exact b1, by rw [hg _ (by omega) (by omega)]; exact b2, by rw [hg _ (by omega) (by omega)]; exact b3⟩
  have s6 : G 15 6 = 0 ∨ G 15 6 = 1 := by
    rw [q4]
    by_cases z : C 2 13 = 0
    · rw [if_pos z]; exact Or.inl rfl
    · rw [if_neg z]; exact Or.inr rfl
  refine ⟨⟨fun n n0 n1 => ?_, fun n c n0 n1 c0 c1 => ?_, fun v v0 v1 => ?_, ?_, ?_, ?_, ?_, ?_⟩, ⟨s6, fun n n0 n1 => ?_, fun n m n0 n1 m0 m1 he hne => ?_⟩, ⟨?_, Or.inl q5, fun n c n0 n1 c0 c1 => ?_, fun v v0 v1 => Or.inl (q3 v (by omega) v1), Or.inl (q3 0 (by omega) (by omega)), fun hz => ⟨fun _ n n0 n1 => ?_, fun z => absurd (q3 0 (by omega) (by omega)) z⟩, fun n n0 n1 hne hz => ?_⟩, ?_⟩
  · show g n = (if G 16 n = 0 then -1 else G 16 n) ∧ g (12 + n) = G 17 n ∧ g (24 + n) = G 18 n
    rcases cs n n0 n1 with ⟨i, i01, e, a1, a2, a3, a4, a5, a6, a7, a8⟩ | ⟨a1, a2, a3, a4, a5, a6⟩
    · rw [a1, a2, a3, a5, a6, a7, if_neg (by omega)]; exact ⟨rfl, rfl, rfl⟩
    · rw [a1, a2, a3, a4, a5, a6, if_pos rfl]; exact ⟨rfl, rfl, rfl⟩
  · have c1 : c < G 17 n := c1
    show g (36 + 8 * n + c) = G 19 (n * 8 + c) ∧ g (132 + 8 * n + c) = G 20 (n * 8 + c)
    rcases cs n n0 n1 with ⟨i, i01, e, a1, a2, a3, a4, a5, a6, a7, a8⟩ | ⟨a1, a2, a3, a4, a5, a6⟩
    · obtain ⟨z1, z2, z3⟩ := a8 c c0 (by omega)
      rw [z1, z2, z3, hg _ (by omega) (by omega), f5 _ (by omega) (by omega)]
      exact ⟨rfl, rfl⟩
    · omega
  · show g (228 + v) = G 21 v
    rw [hg _ (by omega) (by omega), f6 v v0 v1, q3 v v0 v1]
  · show g 241 = G 15 6
    rw [hg _ (by omega) (by omega), f7, q4]
  · show g 242 = G 15 7
    rw [hg _ (by omega) (by omega), f8, q5]
  · show g 243 = G 15 8
    rw [hg _ (by omega) (by omega), f9, q6]
  · show g 244 = G 15 9
    rw [hg _ (by omega) (by omega), f10, q7]
  · show g 245 = G 15 10
    rw [hg _ (by omega) (by omega), f11, q8]
  · show (0 ≤ G 16 n ∧ G 16 n ≤ 12) ∧ (0 ≤ G 17 n ∧ G 17 n ≤ 8) ∧ (G 18 n = 0 ∨ G 18 n = 1) ∧ (G 16 n = 0 → G 17 n = 0 ∧ G 18 n = 0)
    rcases cs n n0 n1 with ⟨i, i01, e, a1, a2, a3, a4, a5, a6, a7, a8⟩ | ⟨a1, a2, a3, a4, a5, a6⟩
    · rw [a1, a2, a3]; omega
    · rw [a1, a2, a3]; omega
  · have he : G 16 n = G 16 m := he
    have hne : G 16 n ≠ 0 := hne
    rcases cs n n0 n1 with ⟨i, i01, e, a1, -⟩ | ⟨a1, -⟩
    · rcases cs m m0 m1 with ⟨k, k01, e', b1, -⟩ | ⟨b1, -⟩
      · rw [← e, ← e', show i = k by omega]
      · omega
    · exact absurd a1 hne
  · show 0 ≤ G 15 9
    rw [q7]; omega
  · have c1 : c < G 17 n := c1
    show G 19 (n * 8 + c) = -1 ∨ _
    rcases cs n n0 n1 with ⟨i, i01, e, a1, a2, a3, a4, a5, a6, a7, a8⟩ | ⟨a1, a2, a3, a4, a5, a6⟩
    · exact Or.inl (a8 c c0 (by omega)).1
    · omega
  · have hz : G 15 6 = 0 := hz
    show G 16 n = 0
    rcases cs n n0 n1 with ⟨i, i01, e, a1, -⟩ | ⟨a1, -⟩
    · rw [q4, if_neg (by omega)] at hz
      omega
    · exact a1
  · have hne : G 16 n ≠ 0 := hne
    have hz : G 18 n = 0 := hz
    rcases cs n n0 n1 with ⟨i, i01, e, a1, a2, a3, -⟩ | ⟨a1, -⟩
    · omega
    · exact absurd a1 hne
  · show i32 (G 15 10)
    rw [q8]
    unfold i32
    omega
/-- the class begins anew -/
theorem ev_anew (h0 : C 10 0 = 0) (hf : flR C F) (X : cm_X) : ∃ C' A, cm_x 104 0 [some (.inr (.inr 0))] [] (cm_hp C X) = some (.inl none, cm_hp C' X) ∧ C' 9 = cm_u1 (cm_u1 (cm_u1 (cm_u1 (C 9) 0 (C 2 4)) 1 (C 2 5)) 2 (C 2 6)) 3 (C 2 7) ∧ C' 10 = A ∧ (A 0 = 0 ∧ ∀ b, 0 ≤ b → b < 400 → A (b + 1) = A b + (if C 5 b = 0 then 0 else 1)) ∧ tkQ (cm_ua (cm_ua C 9 (cm_u1 (cm_u1 (cm_u1 (cm_u1 (C 9) 0 (C 2 4)) 1 (C 2 5)) 2 (C 2 6)) 3 (C 2 7))) 10 A) (cm_ua (cm_ua C' 26 (C 26)) 308 (C 308)) (C 2 13) ∧ (C' 26 1 = 0 ∧ C' 26 2 = 0 ∧ C' 308 0 = 0) ∧ ∀ x : Nat, x ≠ 9 → x ≠ 10 → (x < 15 ∨ 22 ≤ x) → x ≠ 26 → x ≠ 308 → C' x = C x := by
  obtain ⟨f1, f2, f3, -⟩ := hf
  obtain ⟨A, a1, a2, a3⟩ := ev_tkD (C := C) h0 X
  generalize hC1 : cm_ua (cm_ua C 9 (cm_u1 (cm_u1 (cm_u1 (cm_u1 (C 9) 0 (C 2 4)) 1 (C 2 5)) 2 (C 2 6)) 3 (C 2 7))) 10 A = C1 at a1
  have y2 : C1 2 = C 2 := by rw [← hC1]; rfl
  have y6 : C1 6 = C 6 := by rw [← hC1]; rfl
  have y7 : C1 7 = C 7 := by rw [← hC1]; rfl
  obtain ⟨G, b1, b2⟩ := ev_tkS (C := C1) (by rw [y2]; exact f2) (fun i i0 i1 => by
    rw [y2] at i1
    have z := f3 i i0 i1
    rw [y6, y7]
    exact ⟨z.1, z.2.2.2.1⟩) (fun i k i0 i1 k0 k1 he => by
    rw [y2] at i1 k1
    rw [y6] at he
    have z1 := (f3 i i0 i1).2.1
    have z2 := (f3 k k0 k1).2.1
    rw [he, z2] at z1
    omega) X
  have b9 := b2.2.2.2.2.2.2.2.2
  rw [y2] at b2
  refine ⟨cm_up (cm_up (cm_up G 26 1 0) 26 2 0) 308 0 0, A, ?_, ?_, ?_, ⟨a2, a3⟩, ?_, ⟨rfl, rfl, rfl⟩, fun x h9 h10 h15 h26 h308 => ?_⟩
  · rw [sg_X8_beginAnew_0, a1, aft_n, sg_X8_beginAnew_11, b1, aft_n, sg_X8_beginAnew_22, sg_X0_forget_0, aft_n, sg_X8_beginAnew_29]
  · rw [up_row (by omega), up_row (by omega), up_row (by omega), b9 9 (by omega), ← hC1]; rfl
  · rw [up_row (by omega), up_row (by omega), up_row (by omega), b9 10 (by omega), ← hC1]; rfl
  · have e : cm_ua (cm_ua (cm_up (cm_up (cm_up G 26 1 0) 26 2 0) 308 0 0) 26 (C 26)) 308 (C 308) = G := by
      funext x
      by_cases h3 : x = 308
      · rw [h3, ua_same, b9 308 (by omega), ← hC1]; rfl
      · rw [ua_row h3]
        by_cases h2 : x = 26
        · rw [h2, ua_same, b9 26 (by omega), ← hC1]; rfl
        · rw [ua_row h2, up_row h3, up_row h2, up_row h2]
    rw [e, hC1]
    exact b2
  · rw [up_row h308, up_row h26, up_row h26, b9 x h15, ← hC1, ua_row h10, ua_row h9]
/-- all anew: the relation -/
theorem disc_R (hR : R D t) (s0 : 40 ≤ E 9 0 ∧ E 9 0 ≤ 400) (s1 : 2 ≤ E 9 1 ∧ E 9 1 ≤ 16) (s2 : 0 ≤ E 9 2 ∧ E 9 2 ≤ 4) (s3 : 0 ≤ E 9 3 ∧ E 9 3 ≤ 8) (h910 : E 9 10 = D 9 10) (m14 : ∀ j, 0 ≤ j → j < 4 → E 614 j = E 9 j) (hfo : fOk (E 10) (E 614 4) (E 615)) (h21 : E 613 21 = -1) (hS : rS (stt E 15) (E 617) ∧ wS (E 9 1) (E 619) (E 620) (stt E 15)) (h9 : E 15 9 = 0) (h26 : E 26 1 = 0 ∧ E 26 2 = 0) (h29 : E 613 29 = 0) (h308 : E 308 0 = 0) (h33 : E 613 33 = 0) (hring : ∀ x : Nat, 28 ≤ x → x < 308 → E x = D x) (t1 : E 0 1 = 0 ∧ E 613 9 = 0 ∧ E 613 18 = E 0 3 ∧ E 1 = D 1 ∧ E 621 = D 621 ∧ E 616 0 = E 0 8 ∧ E 616 1 = E 0 9) (h14 : E 14 = D 14) (h12 : E 12 = D 12) : R E (t + 400) := by
  obtain ⟨⟨⟨⟨-, -, -, -, z5⟩, -, -, -, -⟩, -, -, -, -, -⟩, ⟨a1, -⟩, -, ⟨-, -, -, u4, -⟩, l1⟩ := hR
  refine ⟨⟨⟨⟨s0, s1, s2, s3, by rw [h12]; exact z5⟩, ?_, ?_, ?_, ?_⟩, m14, hfo, h21, hS.1, hS.2⟩, ⟨⟨?_, ?_, fun k k0 k1 => ?_, fun q q0 q1 => ?_⟩, by rw [h29, h26.2]⟩, ⟨Or.inl h308, by rw [h33, h308], fun z => ?_⟩, ⟨by rw [t1.1, t1.2.1], by rw [t1.1]; omega, t1.2.2.1, by rw [t1.2.2.2.1, t1.2.2.2.2.1]; exact u4, t1.2.2.2.2.2.1, t1.2.2.2.2.2.2⟩, ?_⟩
  · rw [h9]; exact fun b b0 b1 => by omega
  · rw [h9]; exact fun b b0 b1 => by omega
  · rw [h9]; omega
  · rw [h9]; omega
  · rw [h26.1]; omega
  · rw [h26.2]; omega
  · rw [h26.2] at k1; omega
  · refine bS_ag (agS_of fun j hj => ?_) (a1.2.2.2 q q0 q1)
    exact hring _ (by unfold adr; omega) (by unfold adr; omega)
  · rw [h308] at z; omega
  · unfold lkOk
    rw [h910, h14]
    exact ⟨⟨l1.1.1, by have := l1.1.2; omega⟩, l1.2⟩
