/-! guess: both -/
variable {D E : Nat → Int → Int} {X : cm_X} {K B K' B' A : Int → Int} {h pk c t : Int} {S : Nat → Int → Int} {r : Int → Int}
theorem ev_isF (hz : zOk D) (hf : fOk (D 10) (D 614 4) (D 615)) {b : Int} (b0 : 0 ≤ b) (b1 : b < D 9 0) : cm_x 19 0 [some (.inr (.inr 9)), some (.inl (b))] [] (cm_hp D X) = some (.inl (some (.inl (tv (flt (D 614 4) (D 615) b)))), cm_hp D X) := by
  obtain ⟨z1, -⟩ := hz
  have e := fA_1 hf b0 (by omega)
  rw [sg_X2_isFaulty_0, ev_isBlock, aft_v, sg_X2_isFaulty_5, if_pos (show 0 ≤ b ∧ b < D 9 0 from ⟨b0, b1⟩), if_neg (by omega), cm_wr_id (by omega) (by omega), ck_t (by omega), ck_t (by omega)]
  by_cases hq : flt (D 614 4) (D 615) b
  · rw [if_pos (e.mpr hq), tv_t hq]
  · rw [if_neg (fun z => hq (e.mp z)), tv_f hq]
/-- a block that could be the one -/
def gsP (D : Nat → Int → Int) (x b : Int) : Prop := ¬ flt (D 614 4) (D 615) b ∧ endV D b = x
/-- how many there are below k, and the first -/
def gsQ (D : Nat → Int → Int) (x k n f : Int) : Prop := n = sm (fun b => tv (gsP D x b)) k.toNat ∧ (0 ≤ n ∧ n ≤ k) ∧ (n = 0 ↔ f = -1) ∧ ((f = -1 ∧ ∀ b, 0 ≤ b → b < k → ¬ gsP D x b) ∨ ((0 ≤ f ∧ f < k) ∧ gsP D x f ∧ ∀ b, 0 ≤ b → b < f → ¬ gsP D x b))
theorem gsQ_0 {x : Int} : gsQ D x 0 0 (-1) := ⟨rfl, by omega, by omega, Or.inl ⟨rfl, fun b b0 b1 => by omega⟩⟩
theorem gsQ_n {x k n f : Int} (hq : gsQ D x k n f) (k0 : 0 ≤ k) (hn : ¬ gsP D x k) : gsQ D x (k + 1) n f := by
  obtain ⟨a, b, c, d⟩ := hq
  refine ⟨?_, by omega, c, ?_⟩
  · rw [toN_s k0, sm, show ((k.toNat : Nat) : Int) = k by omega, tv_f hn, ← a]; omega
  · rcases d with ⟨d1, d2⟩ | ⟨d1, d2, d3⟩
    · refine Or.inl ⟨d1, fun b b0 b1 => ?_⟩
      by_cases hb : b = k
      · rw [hb]; exact hn
      · exact d2 b b0 (by omega)
    · exact Or.inr ⟨by omega, d2, d3⟩
theorem gsQ_y {x k n f : Int} (hq : gsQ D x k n f) (k0 : 0 ≤ k) (hp : gsP D x k) : gsQ D x (k + 1) (n + 1) (if n = 0 then k else f) := by
  obtain ⟨a, b, c, d⟩ := hq
  refine ⟨?_, by omega, ?_, ?_⟩
  · rw [toN_s k0, sm, show ((k.toNat : Nat) : Int) = k by omega, tv_t hp, ← a]
  · by_cases h0 : n = 0
    · rw [if_pos h0]; omega
    · rw [if_neg h0]; omega
  · rcases d with ⟨d1, d2⟩ | ⟨d1, d2, d3⟩
    · rw [if_pos (c.mpr d1)]
      exact Or.inr ⟨by omega, hp, d2⟩
    · rw [if_neg (fun z => by have := c.mp z; omega)]
      exact Or.inr ⟨by omega, d2, d3⟩
/-- they are told by what they are -/
theorem gsQ_u {x k n f n' f' : Int} (h1 : gsQ D x k n f) (h2 : gsQ D x k n' f') : n = n' ∧ f = f' := by
  obtain ⟨a, -, -, d⟩ := h1
  obtain ⟨a', -, -, d'⟩ := h2
  refine ⟨by rw [a, a'], ?_⟩
  rcases d with ⟨d1, d2⟩ | ⟨d1, d2, d3⟩
  · rcases d' with ⟨e1, e2⟩ | ⟨e1, e2, e3⟩
    · rw [d1, e1]
    · exact absurd e2 (d2 _ e1.1 e1.2)
  · rcases d' with ⟨e1, e2⟩ | ⟨e1, e2, e3⟩
    · exact absurd d2 (e2 _ d1.1 d1.2)
    · by_cases hlt : f < f'
      · exact absurd d2 (e3 f d1.1 hlt)
      · by_cases hgt : f' < f
        · exact absurd e2 (d3 f' e1.1 hgt)
        · omega
