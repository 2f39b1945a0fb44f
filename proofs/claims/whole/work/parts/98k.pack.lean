/-! one packet is written: the reference -/
variable {D E : Nat → Int → Int} {X : cm_X} {K B K' B' A F : Int → Int} {h pk c : Int} {S : Nat → Int → Int} {r : Int → Int}
theorem ev_torn {m : Int} : cm_x 206 0 [some (.inr (.inr 613)), some (.inl (m))] [] (cm_hp E X) = some (.inl (some (.inl (if E 613 27 = m then 1 else 0))), cm_hp E X) := by
  rw [sg_X9_isTorn_0]
  by_cases hq : E 613 27 = m
  · rw [if_pos hq, if_pos hq]
  · rw [if_neg hq, if_neg hq]
theorem ev_tornY {m : Int} (h : E 613 27 = m) : cm_x 206 0 [some (.inr (.inr 613)), some (.inl (m))] [] (cm_hp E X) = some (.inl (some (.inl (1))), cm_hp E X) := by rw [sg_X9_isTorn_0, if_pos h]
theorem ev_tornN {m : Int} (h : E 613 27 ≠ m) : cm_x 206 0 [some (.inr (.inr 613)), some (.inl (m))] [] (cm_hp E X) = some (.inl (some (.inl (0))), cm_hp E X) := by rw [sg_X9_isTorn_0, if_neg h]
/-- what so many written blocks leave: the head, the count, the kinds -/
def wrt (E E' : Nat → Int → Int) (m : Int) (k : Int → Int) : Prop := E' 617 = cm_u1 (E 617) 244 (E 617 244 + m) ∧ E' 613 27 = E 613 27 + m ∧ (∀ j, j ≠ 27 → E' 613 j = E 613 j) ∧ (∀ b, E' 619 b = if E 617 244 ≤ b ∧ b < E 617 244 + m then k b else E 619 b)
theorem wrt_0 {k : Int → Int} : wrt E E 0 k := ⟨by rw [Int.add_zero, u1_id], by omega, fun _ _ => rfl, fun b => by rw [if_neg (by omega)]⟩
/-- one more -/
theorem wrt_s {F : Nat → Int → Int} {m x : Int} {k : Int → Int} (hw : wrt E F m k) (h0 : 0 ≤ E 617 244) (m0 : 0 ≤ m) (h4 : E 617 244 + m < 400) (w0 : 0 ≤ E 613 27) (w1 : E 613 27 + m < 2000000) (hk : k (E 617 244 + m) = x) : ∃ F', cm_x 207 0 [some (.inr (.inr 613)), some (.inl (x))] [] (cm_hp F X) = some (.inl none, cm_hp F' X) ∧ wrt E F' (m + 1) k ∧ ∀ a : Nat, a ≠ 613 → a ≠ 617 → a ≠ 619 → F' a = F a := by
  obtain ⟨p1, p2, p3, p4⟩ := hw
  have e : F 617 244 = E 617 244 + m := by rw [p1, u1_eq]
  refine ⟨cm_up (cm_up (cm_up F 619 (E 617 244 + m) x) 617 244 (E 617 244 + m + 1)) 613 27 (E 613 27 + m + 1), ?_, ⟨?_, ?_, fun j hj => ?_, fun b => ?_⟩, fun a a1 a2 a3 => ?_⟩
  · rw [sg_X9_putBlock_0, e, ck_t (by omega), p2, cm_wr_id (x := E 617 244 + m + 1) (by omega) (by omega), cm_wr_id (x := E 613 27 + m + 1) (by omega) (by omega)]
  · rw [up_row (by omega), up_same, up_row (by omega), p1, u1_u1, Int.add_assoc]
  · rw [up_same, u1_eq]; omega
  · rw [up_same, u1_ne hj, up_row (by omega), up_row (by omega), p3 j hj]
  · rw [up_row (by omega), up_row (by omega), up_same]
    by_cases hb : b = E 617 244 + m
    · rw [hb, u1_eq, if_pos (by omega), hk]
    · rw [u1_ne hb, p4]
      by_cases h2 : E 617 244 ≤ b ∧ b < E 617 244 + m
      · rw [if_pos h2, if_pos (by omega)]
      · rw [if_neg h2, if_neg (by omega)]
  · rw [up_row a1, up_row a2, up_row a3]
/-- the links -/
theorem ev_links {p mo m1 : Int} (h0 : 0 ≤ E 617 244) (r0 : 0 ≤ E 614 2) (h4 : E 617 244 + E 614 2 ≤ 400) (w0 : 0 ≤ E 613 27) (w2 : mo ≤ 1000000) (m0 : 0 ≤ m1) (m1r : m1 ≤ E 614 2) (m1w : E 613 27 + m1 ≤ mo) (mt : m1 < E 614 2 → E 613 27 + m1 = mo) : ∃ F, cm_x 208 0 [some (.inr (.inr 613)), some (.inl (p)), some (.inl (mo)), none, none, none, none, none] [] (cm_hp E X) = cm_x 208 46 [some (.inr (.inr 613)), some (.inl (p)), some (.inl (mo)), some (.inl (0)), some (.inl (E 617 244 + m1)), some (.inl (0)), none, none] [] (cm_hp F X) ∧ wrt E F m1 (fun _ => 1) ∧ ∀ a : Nat, a ≠ 613 → a ≠ 617 → a ≠ 619 → F a = E a := by
  obtain ⟨F, L, P1, P2⟩ := lp_inv (X := fun j F => cm_x 208 2 [some (.inr (.inr 613)), some (.inl (p)), some (.inl (mo)), some (.inl (j)), none, none, none, none] [] (cm_hp F X)) (P := fun j F => wrt E F j (fun _ => 1) ∧ ∀ a : Nat, a ≠ 613 → a ≠ 617 → a ≠ 619 → F a = E a) (lo := 0) (hi := m1) (fun j F j0 j1 hP => by
    obtain ⟨p1, p2⟩ := hP
    obtain ⟨F', f1, f2, f3⟩ := wrt_s (X := X) (x := 1) p1 h0 j0 (by omega) w0 (by omega) rfl
    refine ⟨F', ?_, f2, fun a a1 a2 a3 => by rw [f3 a a1 a2 a3, p2 a a1 a2 a3]⟩
    show cm_x 208 2 [some (.inr (.inr 613)), some (.inl (p)), some (.inl (mo)), some (.inl (j)), none, none, none, none] [] (cm_hp F X) = cm_x 208 2 [some (.inr (.inr 613)), some (.inl (p)), some (.inl (mo)), some (.inl (j + 1)), none, none, none, none] [] (cm_hp F' X)
    rw [sg_X9_writePacket_2, p2 614 (by omega) (by omega) (by omega), if_pos (by omega), ev_tornN (by rw [p1.2.1]; omega), aft_v, sg_X9_writePacket_17, if_pos rfl, f1, aft_n, sg_X9_writePacket_25, cm_wr_id (by omega) (by omega)]) E m0 ⟨wrt_0, fun _ _ _ _ => rfl⟩
  have L : cm_x 208 2 [some (.inr (.inr 613)), some (.inl (p)), some (.inl (mo)), some (.inl (0)), none, none, none, none] [] (cm_hp E X) = cm_x 208 2 [some (.inr (.inr 613)), some (.inl (p)), some (.inl (mo)), some (.inl (m1)), none, none, none, none] [] (cm_hp F X) := L
  have e : F 617 244 = E 617 244 + m1 := by rw [P1.1, u1_eq]
  refine ⟨F, ?_, P1, P2⟩
  rw [sg_X9_writePacket_0, L, sg_X9_writePacket_2, P2 614 (by omega) (by omega) (by omega)]
  by_cases hq : m1 < E 614 2
  · rw [if_pos hq, ev_tornY (by rw [P1.2.1]; exact mt hq), aft_v, sg_X9_writePacket_17, if_neg (by omega), e]
  · rw [if_neg hq, e]
/-- the places -/
theorem ev_places {p mo x : Int} (k0 : 0 ≤ E 614 1) (p0 : 0 ≤ E 614 1 * p) (k1 : E 614 1 * p + E 614 1 ≤ 130) (x0 : 0 ≤ x) (x1 : x ≤ 1000) : ∃ f, cm_x 208 46 [some (.inr (.inr 613)), some (.inl (p)), some (.inl (mo)), some (.inl (0)), some (.inl (x)), some (.inl (0)), none, none] [] (cm_hp E X) = cm_x 208 87 [some (.inr (.inr 613)), some (.inl (p)), some (.inl (mo)), some (.inl (0)), some (.inl (x)), some (.inl (0)), none, none] [] (cm_hp (cm_ua E 624 f) X) ∧ ∀ t, f t = if E 614 1 * p ≤ t ∧ t < E 614 1 * p + E 614 1 then x + (t - E 614 1 * p) else E 624 t := by
  have wp : cm_wr (E 614 1 * p) = E 614 1 * p := cm_wr_id (by omega) (by omega)
  obtain ⟨f, L, P⟩ := lp_inv (X := fun j f => cm_x 208 46 [some (.inr (.inr 613)), some (.inl (p)), some (.inl (mo)), some (.inl (0)), some (.inl (x)), some (.inl (j)), none, none] [] (cm_hp (cm_ua E 624 f) X)) (P := fun j f => ∀ t, f t = if E 614 1 * p ≤ t ∧ t < E 614 1 * p + j then x + (t - E 614 1 * p) else E 624 t) (lo := 0) (hi := E 614 1) (fun j f j0 j1 hP => by
    have q14 : cm_ua E 624 f 614 = E 614 := rfl
    refine ⟨cm_u1 f (E 614 1 * p + j) (x + j), ?_, fun t => ?_⟩
    · show cm_x 208 46 [some (.inr (.inr 613)), some (.inl (p)), some (.inl (mo)), some (.inl (0)), some (.inl (x)), some (.inl (j)), none, none] [] (cm_hp (cm_ua E 624 f) X) = cm_x 208 46 [some (.inr (.inr 613)), some (.inl (p)), some (.inl (mo)), some (.inl (0)), some (.inl (x)), some (.inl (j + 1)), none, none] [] (cm_hp (cm_ua E 624 (cm_u1 f (E 614 1 * p + j) (x + j))) X)
      rw [sg_X9_writePacket_46, q14, if_pos j1, wp, cm_wr_id (x := E 614 1 * p + j) (by omega) (by omega), cm_wr_id (x := x + j) (by omega) (by omega), cm_wr_id (x := j + 1) (by omega) (by omega), ck_t (by omega), up_to_ua, ua_ua, ua_same]
    · by_cases ht : t = E 614 1 * p + j
      · rw [ht, u1_eq, if_pos (by omega)]
        omega
      · rw [u1_ne ht, hP t]
        by_cases h2 : E 614 1 * p ≤ t ∧ t < E 614 1 * p + j
        · rw [if_pos h2, if_pos (by omega)]
        · rw [if_neg h2, if_neg (by omega)]) (E 624) k0 (fun t => by rw [if_neg (by omega)])
  have L : cm_x 208 46 [some (.inr (.inr 613)), some (.inl (p)), some (.inl (mo)), some (.inl (0)), some (.inl (x)), some (.inl (0)), none, none] [] (cm_hp (cm_ua E 624 (E 624)) X) = cm_x 208 46 [some (.inr (.inr 613)), some (.inl (p)), some (.inl (mo)), some (.inl (0)), some (.inl (x)), some (.inl (E 614 1)), none, none] [] (cm_hp (cm_ua E 624 f) X) := L
  rw [ua_id] at L
  have q14 : cm_ua E 624 f 614 = E 614 := rfl
  refine ⟨f, ?_, P⟩
  rw [L, sg_X9_writePacket_46, q14, if_neg (by omega)]
