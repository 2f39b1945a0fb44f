/-! contents that are written: the map, and what is in mind behind it -/
variable {S : Nat → Int → Int} {L : List CT} {f K B a b : Int → Int} {h0 m hd q pk : Int}
/-- of one content that is written -/
def dnX (S : Nat → Int → Int) (L : List CT) (h0 : Int) (f K B : Int → Int) (hd : Int) (t : Nat) (x : CT) : Prop := (h0 ≤ f t ∧ f t < hd) ∧ K (f t) = x.1 ∧ (∀ t' : Nat, t' < t → f t' < f t) ∧ (x.1 = 4 → B (15 * f t + 8) = S 2 x.2.1 ∧ ∀ i, 0 ≤ i → i < S 2 x.2.1 → (S 4 (x.2.1 * 8 + i) ≠ -1 ∧ B (15 * f t + i) = S 4 (x.2.1 * 8 + i)) ∨ ∃ t' : Nat, t' < t ∧ L[t']? = some (3, x.2.1, i) ∧ B (15 * f t + i) = f t') ∧ (x.1 = 5 → ∀ i, 0 ≤ i → i < 12 → B (15 * f t + i) = if S 1 i = 0 then -1 else S 1 i)
/-- the first q contents are written -/
def dnQ (S : Nat → Int → Int) (L : List CT) (h0 : Int) (f K B : Int → Int) (hd q : Int) : Prop := ∀ (t : Nat) (x : CT), (t : Int) < q → L[t]? = some x → dnX S L h0 f K B hd t x
/-- what a map tells -/
def mbQ (S : Nat → Int → Int) (L : List CT) (f B : Int → Int) (m : Int) : Prop := ((∃ (t' : Nat) (k c : Int), L[t']? = some (5, k, c) ∧ B (15 * m) = f t') ∨ (S 0 6 = 0 ∧ B (15 * m) = S 6 0)) ∧ (∀ i, 1 ≤ i → i < 13 → (∃ (t' : Nat) (k c : Int), L[t']? = some (4, k, c) ∧ S 1 k = i ∧ B (15 * m + i) = f t') ∨ ((∀ k, 0 ≤ k → k < 12 → S 1 k = i → S 3 k = 0) ∧ B (15 * m + i) = S 6 i)) ∧ B (15 * m + 13) = S 0 7
/-- contents but the map lie ahead of it -/
theorem ct_lt (hg : gL S L) {t : Nat} {x : CT} (hx : L[t]? = some x) (h6 : x.1 ≠ 6) : (t : Int) < L.length - 1 := by
  have h1 := get_lt hx
  by_cases h2 : t = L.length - 1
  · rw [h2, hg.2.2.2.2.2.2] at hx
    exact absurd (congrArg (fun z : CT => z.1) (Option.some.inj hx)).symm h6
  · have := hg.2.2.2.2.2.1
    omega
theorem dn_dir (hg : gL S L) (hn : nS S) (z0 : 0 ≤ h0) (hdn : dnQ S L h0 f K B m (L.length - 1)) {t : Nat} {k c : Int} (hx : L[t]? = some (5, k, c)) : dirOk K B (f t) m ∧ 0 ≤ f t ∧ ∀ i, 0 ≤ i → i < 12 → B (15 * f t + i) = if S 1 i = 0 then -1 else S 1 i := by
  obtain ⟨d1, d2, -, -, d5⟩ := hdn t _ (ct_lt hg hx (by show ¬ (5 : Int) = 6; omega)) hx
  have d5 := d5 rfl
  refine ⟨⟨⟨by omega, d1.2⟩, d2, fun n n0 n1 => ?_, fun n j n0 n1 j0 j1 he hne => ?_⟩, by omega, d5⟩
  · have := (hn.2.1 n n0 n1).1
    rw [d5 n n0 n1]
    by_cases h : S 1 n = 0
    · rw [if_pos h]; exact Or.inl rfl
    · rw [if_neg h]; exact Or.inr (by omega)
  · rw [d5 n n0 n1, d5 j j0 j1] at he
    rw [d5 n n0 n1] at hne
    have b1 := (hn.2.1 n n0 n1).1
    have b2 := (hn.2.1 j j0 j1).1
    by_cases h : S 1 n = 0
    · rw [if_pos h] at hne; exact absurd rfl hne
    · rw [if_neg h] at he
      by_cases h' : S 1 j = 0
      · rw [if_pos h'] at he; omega
      · rw [if_neg h'] at he
        exact hn.2.2 n j n0 n1 j0 j1 he h
theorem dn_ent (hg : gL S L) (hn : nS S) (z0 : 0 ≤ h0) (hv : vS pk K B S) (h9 : S 0 9 = h0) (hdn : dnQ S L h0 f K B m (L.length - 1)) {t : Nat} {n c : Int} (hx : L[t]? = some (4, n, c)) : entOk K B (f t) m ∧ 0 ≤ f t := by
  have w := ct_4 hg hx
  obtain ⟨d1, d2, d3, d4, -⟩ := hdn t _ (ct_lt hg hx (by show ¬ (4 : Int) = 6; omega)) hx
  obtain ⟨d6, d7⟩ := d4 rfl
  dsimp only at d6 d7
  refine ⟨⟨⟨by omega, d1.2⟩, d2, fun i i0 i1 => ?_⟩, by omega⟩
  rw [d6] at i1
  rcases d7 i i0 i1 with ⟨y1, y2⟩ | ⟨t', y1, y2, y3⟩
  · rw [y2]
    have := (hv.2.2.1 n i w.2.1.1 w.2.1.2 i0 i1).resolve_left y1
    exact ⟨⟨this.1.1, by have := this.1.2; omega⟩, this.2⟩
  · rw [y3]
    have e := hdn t' _ (ct_lt hg y2 (by show ¬ (3 : Int) = 6; omega)) y2
    exact ⟨⟨by have := e.1.1; omega, d3 t' y1⟩, e.2.1⟩
theorem mp_ok (hg : gL S L) (hn : nS S) (z0 : 0 ≤ h0) (hv : vS pk K B S) (h9 : S 0 9 = h0) (hm : h0 ≤ m) (hdn : dnQ S L h0 f K B m (L.length - 1)) (hb : mbQ S L f B m) : mapOk K B pk m := by
  obtain ⟨b1, b2, b3⟩ := hb
  have hv' := hv
  obtain ⟨s1, s2, s3, s4, s5, s6, s7⟩ := hv
  refine ⟨?_, fun v v0 v1 => ?_, fun hd n n0 n1 hne => ?_, ?_⟩
  · rcases b1 with ⟨t', k, c, y1, y2⟩ | ⟨y1, y2⟩
    · rw [y2]
      exact Or.inr (dn_dir hg hn z0 hdn y1).1
    · rw [y2]
      exact s5.imp id fun z => dir_le (by omega) z
  · rcases b2 v v0 v1 with ⟨t', k, c, y1, y2, y3⟩ | ⟨y1, y2⟩
    · rw [y3]
      exact Or.inr (dn_ent hg hn z0 hv' h9 hdn y1).1
    · rw [y2]
      exact (s4 v v0 v1).imp id fun z => ent_le (by omega) z
  · have e : B (15 * B (15 * m) + n) = if S 1 n = 0 then -1 else S 1 n := by
      rcases b1 with ⟨t', k, c, y1, y2⟩ | ⟨y1, y2⟩
      · rw [y2]; exact (dn_dir hg hn z0 hdn y1).2.2 n n0 n1
      · rw [y2] at hd ⊢
        exact (s6 y1).2 hd n n0 n1
    rw [e] at hne ⊢
    have hvb := (hn.2.1 n n0 n1).1
    by_cases h : S 1 n = 0
    · rw [if_pos h] at hne; exact absurd rfl hne
    · rw [if_neg h]
      rcases b2 (S 1 n) (by omega) (by omega) with ⟨t', k, c, y1, y2, y3⟩ | ⟨y1, y2⟩
      · have := (dn_ent hg hn z0 hv' h9 hdn y1).2
        rw [y3]; omega
      · rw [y2]
        exact s7 n n0 n1 h (y1 n n0 n1 rfl)
  · rw [b3]
    exact s2.imp id fun z => ⟨⟨z.1.1, by have := z.1.2; omega⟩, z.2⟩
/-- what is in mind behind the map -/
theorem st_ok {S' : Nat → Int → Int} (hg : gL S L) (hn : nS S) (z0 : 0 ≤ h0) (hv : vS pk K B S) (h9 : S 0 9 = h0) (hm : h0 ≤ m) (hdn : dnQ S L h0 f K B m (L.length - 1)) (hgm : goodM K pk m) (hp : plQ (S 1) (S 4) (S 6) L (L.length) f a b) (e1 : ∀ n, 0 ≤ n → n < 12 → S' 1 n = S 1 n ∧ S' 2 n = S 2 n ∧ S' 3 n = 0) (e4 : ∀ y, 0 ≤ y → y < 96 → S' 4 y = a y) (e6 : ∀ v, 0 ≤ v → v < 13 → S' 6 v = b v) (d6 : S' 0 6 = 0) (d7 : S' 0 7 = m) (d9 : S' 0 9 = m + 1) (hi : i32 (S' 0 10)) : wS pk K B S' := by
  obtain ⟨p1, p2, p3, p4, p5⟩ := hp
  have hv' := hv
  obtain ⟨s1, s2, s3, s4, s5, s6, s7⟩ := hv
  have hlt : ∀ {t' : Nat} {y : CT}, L[t']? = some y → (t' : Int) < L.length := fun h => by
    have := get_lt h
    omega
  have hb0 : (S 0 6 = 0 ∧ b 0 = S 6 0) ∨ ∃ (t : Nat) (k c : Int), L[t]? = some (5, k, c) ∧ b 0 = f t := by
    by_cases h6 : S 0 6 = 0
    · exact Or.inl ⟨h6, p5 0 (by omega) (by omega) (fun t' k d _ y => fun z => (ct_4 hg y).2.2.1 z.symm) (fun t' k d _ y => absurd h6 (ct_5 hg y).2.2)⟩
    · obtain ⟨t, ht⟩ := List.getElem?_of_mem (hg.2.2.2.2.1 h6)
      exact Or.inr ⟨t, _, _, ht, p4 t _ _ (hlt ht) ht⟩
  refine ⟨⟨Or.inl d6, fun n n0 n1 => ?_, fun n k n0 n1 k0 k1 he hne => ?_⟩, ⟨by omega, Or.inr ⟨by omega, by rw [d7]; exact hgm⟩, fun n c n0 n1 c0 c1 => ?_, fun v v0 v1 => ?_, ?_, fun _ => ⟨fun hz n n0 n1 => ?_, fun hz n n0 n1 => ?_⟩, fun n n0 n1 hne _ => ?_⟩, hi⟩
  · obtain ⟨x1, x2, x3⟩ := e1 n n0 n1
    have := hn.2.1 n n0 n1
    rw [x1, x2, x3]
    exact ⟨this.1, this.2.1, Or.inl rfl, fun z => ⟨(this.2.2.2 z).1, rfl⟩⟩
  · rw [(e1 n n0 n1).1, (e1 k k0 k1).1] at he
    rw [(e1 n n0 n1).1] at hne
    exact hn.2.2 n k n0 n1 k0 k1 he hne
  · rw [(e1 n n0 n1).2.1] at c1
    have hl := (hn.2.1 n n0 n1).2.1
    rw [e4 _ (by omega) (by omega), d9]
    by_cases hq : ∃ t : Nat, L[t]? = some (3, n, c)
    · obtain ⟨t, ht⟩ := hq
      rw [p1 t n c (hlt ht) ht]
      have e := hdn t _ (ct_lt hg ht (by show ¬ (3 : Int) = 6; omega)) ht
      exact Or.inr ⟨by have := e.1; omega, e.2.1⟩
    · rw [p2 _ (by omega) (by omega) fun t n' c' _ h2 h3 => ?_]
      · exact (s3 n c n0 n1 c0 c1).imp id fun z => ⟨⟨z.1.1, by have := z.1.2; omega⟩, z.2⟩
      · have w := ct_3 hg h2 hn
        have x1 : n' = n := by omega
        have x2 : c' = c := by omega
        rw [x1, x2] at h2
        exact hq ⟨t, h2⟩
  · rw [e6 v (by omega) v1, d9]
    by_cases hq : ∃ (t : Nat) (n d : Int), L[t]? = some (4, n, d) ∧ S 1 n = v
    · obtain ⟨t, n, d, ht, hnv⟩ := hq
      rw [← hnv, p3 t n d (hlt ht) ht]
      exact Or.inr (ent_le (by omega) (dn_ent hg hn z0 hv' h9 hdn ht).1)
    · rw [p5 v (by omega) v1 (fun t n d _ y z => hq ⟨t, n, d, y, z.symm⟩) (fun t n d _ _ => by omega)]
      exact (s4 v v0 v1).imp id fun z => ent_le (by omega) z
  · rw [e6 0 (by omega) (by omega), d9]
    rcases hb0 with ⟨y1, y2⟩ | ⟨t, k, c, y1, y2⟩
    · rw [y2]; exact s5.imp id fun z => dir_le (by omega) z
    · rw [y2]; exact Or.inr (dir_le (by omega) (dn_dir hg hn z0 hdn y1).1)
  · rw [e6 0 (by omega) (by omega)] at hz
    rw [(e1 n n0 n1).1]
    rcases hb0 with ⟨y1, y2⟩ | ⟨t, k, c, y1, y2⟩
    · rw [y2] at hz; exact (s6 y1).1 hz n n0 n1
    · have := (dn_dir hg hn z0 hdn y1).2.1
      rw [y2] at hz; omega
  · rw [e6 0 (by omega) (by omega)] at hz ⊢
    rw [(e1 n n0 n1).1]
    rcases hb0 with ⟨y1, y2⟩ | ⟨t, k, c, y1, y2⟩
    · rw [y2] at hz ⊢; exact (s6 y1).2 hz n n0 n1
    · rw [y2]; exact (dn_dir hg hn z0 hdn y1).2.2 n n0 n1
  · rw [(e1 n n0 n1).1] at hne ⊢
    have hvb := (hn.2.1 n n0 n1).1
    rw [e6 _ hvb.1 (by omega)]
    by_cases h3 : S 3 n = 0
    · rw [p5 _ hvb.1 (by omega) (fun t k d _ y z => ?_) (fun t k d _ _ => hne)]
      · exact s7 n n0 n1 hne h3
      · have w := ct_4 hg y
        have : n = k := hn.2.2 n k n0 n1 w.2.1.1 w.2.1.2 z hne
        rw [← this] at w
        exact w.2.2.2 h3
    · obtain ⟨t, ht⟩ := List.getElem?_of_mem (hg.2.2.2.1 n n0 n1 h3)
      rw [p3 t n _ (hlt ht) ht]
      have := (dn_ent hg hn z0 hv' h9 hdn ht).2
      omega
