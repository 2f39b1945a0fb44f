/-! faulty blocks: both -/
variable {D E : Nat → Int → Int} {X : cm_X} {K B K' B' A F : Int → Int} {h pk t c : Int} {S : Nat → Int → Int} {r : Int → Int}
theorem fA_k (hf : fOk A c F) (lo : Int) (l0 : 0 ≤ lo) : ∀ k : Nat, lo + k ≤ 400 → A lo ≤ A (lo + k) ∧ (A lo < A (lo + k) ↔ ∃ b, lo ≤ b ∧ b < lo + k ∧ flt c F b) := by
  intro k
  induction k with
  | zero =>
    intro _
    have e : lo + ((0 : Nat) : Int) = lo := by omega
    rw [e]
    exact ⟨Int.le_refl _, fun z => by omega, fun ⟨b, b0, b1, _⟩ => by omega⟩
  | succ k ih =>
    intro hk
    obtain ⟨i1, i2⟩ := ih (by omega)
    have e := hf.2.1 (lo + k) (by omega) (by omega)
    have e2 : lo + ((k + 1 : Nat) : Int) = lo + k + 1 := by omega
    rw [e2, e]
    by_cases hq : flt c F (lo + k)
    · rw [tv_t hq]
      exact ⟨by omega, fun _ => ⟨lo + k, by omega, by omega, hq⟩, fun _ => by omega⟩
    · rw [tv_f hq, Int.add_zero]
      refine ⟨i1, fun z => ?_, fun ⟨b, b0, b1, b2⟩ => i2.mpr ⟨b, b0, ?_, b2⟩⟩
      · obtain ⟨b, b0, b1, b2⟩ := i2.mp z
        exact ⟨b, b0, by omega, b2⟩
      · by_cases hb : b = lo + k
        · rw [hb] at b2; exact absurd b2 hq
        · omega
theorem fA_lt (hf : fOk A c F) {lo hi : Int} (l0 : 0 ≤ lo) (l1 : lo ≤ hi) (h4 : hi ≤ 400) : A lo < A hi ↔ ∃ b, lo ≤ b ∧ b < hi ∧ flt c F b := by
  have := (fA_k hf lo l0 (hi - lo).toNat (by omega)).2
  rw [show lo + (((hi - lo).toNat : Nat) : Int) = hi by omega] at this
  exact this
theorem fA_1 (hf : fOk A c F) {b : Int} (b0 : 0 ≤ b) (b1 : b < 400) : A b < A (b + 1) ↔ flt c F b := by
  rw [fA_lt hf b0 (by omega) (by omega)]
  exact ⟨fun ⟨x, x0, x1, x2⟩ => by rw [show b = x by omega]; exact x2, fun z => ⟨b, by omega, by omega, z⟩⟩
/-- room for one more packet, and whether it would be spared -/
def rm (D : Nat → Int → Int) (hd : Int) : Prop := hd + (D 9 2 + D 9 1) + D 9 3 ≤ D 9 0
def spr (D : Nat → Int → Int) (hd : Int) : Prop := ∃ b, hd + D 9 2 ≤ b ∧ b < hd + D 9 2 + D 9 1 ∧ flt (D 614 4) (D 615) b
theorem ev_room (hz : zOk D) {hd : Int} (h0 : 0 ≤ hd) (h1 : hd ≤ 1000) : cm_x 28 0 [some (.inr (.inr 9)), some (.inl (hd))] [] (cm_hp D X) = some (.inl (some (.inl (tv (rm D hd)))), cm_hp D X) := by
  obtain ⟨z1, z2, z3, z4, -⟩ := hz
  rw [sg_X2_hasRoomForPacket_0, cm_wr_id (x := hd + D 9 2) (by omega) (by omega), cm_wr_id (x := hd + D 9 2 + D 9 1) (by omega) (by omega), cm_wr_id (by omega) (by omega)]
  by_cases hr : rm D hd
  · rw [tv_t hr, if_neg (by unfold rm at hr; omega)]
  · rw [tv_f hr, if_pos (by unfold rm at hr; omega)]
theorem ev_spare (hz : zOk D) (hf : fOk (D 10) (D 614 4) (D 615)) {hd : Int} (h0 : 0 ≤ hd) (hr : rm D hd) : cm_x 29 0 [some (.inr (.inr 9)), some (.inl (hd))] [] (cm_hp D X) = some (.inl (some (.inl (tv (spr D hd)))), cm_hp D X) := by
  obtain ⟨z1, z2, z3, z4, -⟩ := hz
  unfold rm at hr
  have e := fA_lt hf (lo := hd + D 9 2) (hi := hd + D 9 2 + D 9 1) (by omega) (by omega) (by omega)
  rw [sg_X2_wouldSpare_0, cm_wr_id (x := hd + D 9 2) (by omega) (by omega), cm_wr_id (x := hd + D 9 2 + D 9 1) (by omega) (by omega), sg_X2_hasFaulty_0, if_neg (by omega), if_pos (by omega), if_neg (by omega), ck_t (by omega), ck_t (by omega)]
  by_cases hs : spr D hd
  · rw [if_pos (e.mpr hs), aft_v, sg_X2_wouldSpare_21, ck_t (by omega), tv_t hs]
  · rw [if_neg (fun z => hs (e.mp z)), aft_v, sg_X2_wouldSpare_21, ck_t (by omega), tv_f hs]
/-- the reference: faulty, or the one that a guess adds -/
def fltX (E : Nat → Int → Int) (b : Int) : Prop := b = E 613 21 ∨ flt (E 614 4) (E 615) b
theorem ev_mFlt (c0 : 0 ≤ E 614 4) (c1 : E 614 4 ≤ 12) (b : Int) : cm_x 183 0 [some (.inr (.inr 613)), some (.inl (b)), none, none] [] (cm_hp E X) = some (.inl (some (.inl (tv (fltX E b)))), cm_hp E X) := by
  have run : ∀ s0 : Int, (s0 = 0 ∨ s0 = 1) → (s0 = 1 ↔ b = E 613 21) → cm_x 183 16 [some (.inr (.inr 613)), some (.inl (b)), some (.inl (s0)), some (.inl (0))] [] (cm_hp E X) = some (.inl (some (.inl (tv (fltX E b)))), cm_hp E X) := by
    intro s0 hs0 hs1
    obtain ⟨s, L, P1, P2⟩ := lp_inv (X := fun k s => cm_x 183 16 [some (.inr (.inr 613)), some (.inl (b)), some (.inl (s)), some (.inl (k))] [] (cm_hp E X)) (P := fun k s => (s = 0 ∨ s = 1) ∧ (s = 1 ↔ b = E 613 21 ∨ ∃ j, 0 ≤ j ∧ j < k ∧ E 615 j = b)) (lo := 0) (hi := E 614 4) (fun k s k0 k1 hP => by
      obtain ⟨p1, p2⟩ := hP
      have e2 : cm_wr (k + 1) = k + 1 := cm_wr_id (by omega) (by omega)
      by_cases hs : s = 0
      · have hno : ¬ (b = E 613 21 ∨ ∃ j, 0 ≤ j ∧ j < k ∧ E 615 j = b) := fun z => by have := p2.mpr z; omega
        by_cases hq : E 615 k = b
        · refine ⟨1, ?_, Or.inr rfl, fun _ => Or.inr ⟨k, k0, by omega, hq⟩, fun _ => rfl⟩
          show cm_x 183 16 [some (.inr (.inr 613)), some (.inl (b)), some (.inl (s)), some (.inl (k))] [] (cm_hp E X) = cm_x 183 16 [some (.inr (.inr 613)), some (.inl (b)), some (.inl (1)), some (.inl (k + 1))] [] (cm_hp E X)
          rw [sg_X9_isFaulty_16, if_pos k1, if_pos hs, ck_t (by omega), if_pos hq, e2]
        · refine ⟨0, ?_, Or.inl rfl, fun z => by omega, fun z => absurd (z.imp id fun ⟨j, j0, j1, j2⟩ => ⟨j, j0, ?_, j2⟩) hno⟩
          · show cm_x 183 16 [some (.inr (.inr 613)), some (.inl (b)), some (.inl (s)), some (.inl (k))] [] (cm_hp E X) = cm_x 183 16 [some (.inr (.inr 613)), some (.inl (b)), some (.inl (0)), some (.inl (k + 1))] [] (cm_hp E X)
            rw [sg_X9_isFaulty_16, if_pos k1, if_pos hs, ck_t (by omega), if_neg hq, e2]
          · by_cases hj : j = k
            · rw [hj] at j2; exact absurd j2 hq
            · omega
      · refine ⟨1, ?_, Or.inr rfl, fun _ => (p2.mp (by omega)).imp id fun ⟨j, j0, j1, j2⟩ => ⟨j, j0, by omega, j2⟩, fun _ => rfl⟩
        show cm_x 183 16 [some (.inr (.inr 613)), some (.inl (b)), some (.inl (s)), some (.inl (k))] [] (cm_hp E X) = cm_x 183 16 [some (.inr (.inr 613)), some (.inl (b)), some (.inl (1)), some (.inl (k + 1))] [] (cm_hp E X)
        rw [sg_X9_isFaulty_16, if_pos k1, if_neg hs, e2]) s0 c0 ⟨hs0, hs1.trans ⟨Or.inl, fun z => z.elim id fun ⟨j, j0, j1, _⟩ => by omega⟩⟩
    have L : cm_x 183 16 [some (.inr (.inr 613)), some (.inl (b)), some (.inl (s0)), some (.inl (0))] [] (cm_hp E X) = cm_x 183 16 [some (.inr (.inr 613)), some (.inl (b)), some (.inl (s)), some (.inl (E 614 4))] [] (cm_hp E X) := L
    rw [L, sg_X9_isFaulty_16, if_neg (by omega), ck_t P1]
    have hiff : s = 1 ↔ fltX E b := P2
    by_cases hx : fltX E b
    · rw [tv_t hx, hiff.mpr hx]
    · rw [tv_f hx]
      have : s = 0 := by
        rcases P1 with z | z
        · exact z
        · exact absurd (hiff.mp z) hx
      rw [this]
  rw [sg_X9_isFaulty_0]
  by_cases hb : b = E 613 21
  · rw [if_pos hb]
    exact run 1 (Or.inr rfl) ⟨fun _ => hb, fun _ => rfl⟩
  · rw [if_neg hb]
    exact run 0 (Or.inl rfl) ⟨fun z => by omega, fun z => absurd z hb⟩
