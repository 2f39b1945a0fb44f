/-! THE RELATION of the class and the reference -/
variable {D E : Nat → Int → Int} {X : cm_X} {K B K' B' : Int → Int} {h pk : Int} {S T : Nat → Int → Int} {r : Int → Int}
def i32 (x : Int) : Prop := -2147483648 ≤ x ∧ x < 2147483648
def flt (c : Int) (F : Int → Int) (b : Int) : Prop := ∃ k, 0 ≤ k ∧ k < c ∧ F k = b
/-- how many are faulty ahead of each block -/
def fOk (A : Int → Int) (c : Int) (F : Int → Int) : Prop := A 0 = 0 ∧ (∀ b, 0 ≤ b → b < 400 → A (b + 1) = A b + tv (flt c F b)) ∧ 0 ≤ c ∧ c ≤ 12
/-- what is in mind, held against the disc -/
def vS (pk : Int) (K B : Int → Int) (S : Nat → Int → Int) : Prop := 0 ≤ S 0 9 ∧ mpO K pk (S 0 9) (S 0 7) ∧ (∀ n c, 0 ≤ n → n < 12 → 0 ≤ c → c < S 2 n → S 4 (n * 8 + c) = -1 ∨ ((0 ≤ S 4 (n * 8 + c) ∧ S 4 (n * 8 + c) < S 0 9) ∧ K (S 4 (n * 8 + c)) = 3)) ∧ (∀ v, 1 ≤ v → v < 13 → S 6 v = -1 ∨ entOk K B (S 6 v) (S 0 9)) ∧ (S 6 0 = -1 ∨ dirOk K B (S 6 0) (S 0 9)) ∧ (S 0 6 = 0 → (S 6 0 = -1 → ∀ n, 0 ≤ n → n < 12 → S 1 n = 0) ∧ (S 6 0 ≠ -1 → ∀ n, 0 ≤ n → n < 12 → B (15 * S 6 0 + n) = (if S 1 n = 0 then -1 else S 1 n))) ∧ ∀ n, 0 ≤ n → n < 12 → S 1 n ≠ 0 → S 3 n = 0 → S 6 (S 1 n) ≠ -1
def wS (pk : Int) (K B : Int → Int) (S : Nat → Int → Int) : Prop := nS S ∧ vS pk K B S ∧ i32 (S 0 10)
/-- two discs are alike below h -/
def eqB (h : Int) (K B K' B' : Int → Int) : Prop := ∀ b, 0 ≤ b → b < h → K' b = K b ∧ ∀ i, 0 ≤ i → i < 15 → B' (15 * b + i) = B (15 * b + i)
theorem eqB_le {h' : Int} (e : eqB h K B K' B') (hl : h' ≤ h) : eqB h' K B K' B' := fun b b0 b1 => e b b0 (by omega)
theorem eqB_rf : eqB h K B K B := fun _ _ _ => ⟨rfl, fun _ _ _ => rfl⟩
theorem eqB_sy (e : eqB h K B K' B') : eqB h K' B' K B := fun b b0 b1 => ⟨(e b b0 b1).1.symm, fun i i0 i1 => ((e b b0 b1).2 i i0 i1).symm⟩
theorem eqB_tr {K2 B2 : Int → Int} (e : eqB h K B K' B') (f : eqB h K' B' K2 B2) : eqB h K B K2 B2 := fun b b0 b1 => ⟨(f b b0 b1).1.trans (e b b0 b1).1, fun i i0 i1 => ((f b b0 b1).2 i i0 i1).trans ((e b b0 b1).2 i i0 i1)⟩
theorem eqB_0 (e : eqB h K B K' B') {b : Int} (b0 : 0 ≤ b) (b1 : b < h) : B' (15 * b) = B (15 * b) := by
  have := (e b b0 b1).2 0 (by omega) (by omega)
  rw [Int.add_zero] at this
  exact this
theorem good_eq (e : eqB h K B K' B') {b : Int} (b0 : 0 ≤ b) (b1 : b < h) (hp : pk - 1 ≤ b) (hg : goodM K pk b) : goodM K' pk b := by
  refine ⟨by rw [(e b b0 b1).1]; exact hg.1, fun k k0 k1 => ?_⟩
  rw [(e (b - k) (by omega) (by omega)).1]
  exact hg.2 k k0 k1
theorem ent_eq (e : eqB h K B K' B') {x m : Int} (hm : m ≤ h) (hl : K x = 4 → B (15 * x + 8) ≤ 8) (ho : entOk K B x m) : entOk K' B' x m := by
  obtain ⟨⟨x0, x1⟩, xk, xc⟩ := ho
  have hl := hl xk
  have e1 := e x x0 (by omega)
  have e8 := e1.2 8 (by omega) (by omega)
  refine ⟨⟨x0, x1⟩, by rw [e1.1]; exact xk, fun c c0 c1 => ?_⟩
  rw [e8] at c1
  obtain ⟨⟨y0, y1⟩, yk⟩ := xc c c0 c1
  rw [e1.2 c c0 (by omega)]
  exact ⟨⟨y0, y1⟩, by rw [(e _ y0 (by omega)).1]; exact yk⟩
theorem dir_eq (e : eqB h K B K' B') {x m : Int} (hm : m ≤ h) (ho : dirOk K B x m) : dirOk K' B' x m := by
  obtain ⟨⟨x0, x1⟩, xk, xc, xi⟩ := ho
  have e1 := e x x0 (by omega)
  refine ⟨⟨x0, x1⟩, by rw [e1.1]; exact xk, fun n n0 n1 => ?_, fun n k n0 n1 k0 k1 => ?_⟩
  · rw [e1.2 n n0 (by omega)]; exact xc n n0 n1
  · rw [e1.2 n n0 (by omega), e1.2 k k0 (by omega)]; exact xi n k n0 n1 k0 k1
/-- the lengths of entries -/
def lnE (K B : Int → Int) (h : Int) : Prop := ∀ b, 0 ≤ b → b < h → K b = 4 → 0 ≤ B (15 * b + 8) ∧ B (15 * b + 8) ≤ 8
theorem map_eq (e : eqB h K B K' B') (hl : lnE K B h) (hv : vDk pk K B h) {m : Int} (m0 : 0 ≤ m) (m1 : m < h) (ho : mapOk K B pk m) : mapOk K' B' pk m := by
  obtain ⟨o1, o2, o3, o4⟩ := ho
  have em := e m m0 m1
  have em0 := eqB_0 e m0 m1
  unfold mapOk
  rw [em0, em.2 13 (by omega) (by omega)]
  refine ⟨o1.imp id (fun z => dir_eq e (by omega) z), fun v v0 v1 => ?_, fun hn n n0 n1 => ?_, o4.imp id (fun z => ⟨z.1, ?_⟩)⟩
  · rw [em.2 v (by omega) (by omega)]
    exact (o2 v v0 v1).imp id (fun z => ent_eq e (by omega) (fun hk => (hl _ z.1.1 (by have := z.1.2; omega) hk).2) z)
  · have hd := o1.resolve_left hn
    have ed := e (B (15 * m)) hd.1.1 (by have := hd.1.2; omega)
    rw [ed.2 n n0 (by omega)]
    intro hv2
    have := hd.2.2.1 n n0 n1
    rw [em.2 _ (by omega) (by omega)]
    exact o3 hn n n0 n1 hv2
  · have := hv _ z.1.1 (by have := z.1.2; omega) z.2.1
    exact good_eq e z.1.1 (by have := z.1.2; omega) this.1 z.2
theorem vDk_eq (e : eqB h K B K' B') (hl : lnE K B h) (hv : vDk pk K B h) : vDk pk K' B' h := by
  intro b b0 b1 bk
  rw [(e b b0 b1).1] at bk
  obtain ⟨v1, v2⟩ := hv b b0 b1 bk
  exact ⟨v1, fun hg => map_eq e hl hv b0 b1 (v2 (good_eq (eqB_sy e) b0 b1 v1 hg))⟩
theorem lnE_eq (e : eqB h K B K' B') (hl : lnE K B h) : lnE K' B' h := by
  intro b b0 b1 bk
  rw [(e b b0 b1).1] at bk
  rw [(e b b0 b1).2 8 (by omega) (by omega)]
  exact hl b b0 b1 bk
theorem mp_eq (e : eqB h K B K' B') (hv : vDk pk K B h) {m x : Int} (hx : x ≤ h) (hm : mpO K pk x m) : mpO K' pk x m := hm.imp id fun z => ⟨z.1, good_eq e z.1.1 (by have := z.1.2; omega) (hv _ z.1.1 (by have := z.1.2; omega) z.2.1).1 z.2⟩
theorem vS_eq (e : eqB h K B K' B') (hl : lnE K B h) (hv : vDk pk K B h) (hh : S 0 9 ≤ h) (hs : vS pk K B S) : vS pk K' B' S := by
  obtain ⟨s1, s2, s3, s4, s5, s6, s7⟩ := hs
  refine ⟨s1, mp_eq e hv hh s2, fun n c n0 n1 c0 c1 => (s3 n c n0 n1 c0 c1).imp id (fun z => ⟨z.1, ?_⟩), fun v v0 v1 => (s4 v v0 v1).imp id (fun z => ent_eq e hh (fun hk => (hl _ z.1.1 (by have := z.1.2; omega) hk).2) z), s5.imp id (fun z => dir_eq e hh z), fun hd => ⟨(s6 hd).1, fun hn n n0 n1 => ?_⟩, s7⟩
  · rw [(e _ z.1.1 (by have := z.1.2; omega)).1]; exact z.2
  · have z := (s5.resolve_left hn).1
    rw [(e _ z.1 (by have := z.2; omega)).2 n n0 (by omega)]
    exact (s6 hd).2 hn n n0 n1
theorem rDk_ln {Kc Lc Tc : Int → Int} (hr : rDk Kc Lc Tc K B h) : lnE K B h := fun b b0 b1 hk => (hr b b0 b1).2.2.1 hk
theorem mLen_b {k m : Int} (h1 : k = 4 → 0 ≤ m ∧ m ≤ 8) : 0 ≤ mLen k m ∧ mLen k m ≤ 15 := by
  unfold mLen
  omega
theorem rDk_eq {Kc Lc Tc Kc' Lc' Tc' : Int → Int} (e : eqB h K B K' B') (ec : ∀ b, 0 ≤ b → b < h → Kc' b = Kc b ∧ Lc' b = Lc b ∧ ∀ i, 0 ≤ i → i < 15 → Tc' (b * 15 + i) = Tc (b * 15 + i)) (hr : rDk Kc Lc Tc K B h) : rDk Kc' Lc' Tc' K' B' h := by
  intro b b0 b1
  obtain ⟨a1, a2, a3, a4, a5⟩ := hr b b0 b1
  obtain ⟨c1, c2, c3⟩ := ec b b0 b1
  obtain ⟨e1, e2⟩ := e b b0 b1
  have hl := mLen_b a3
  rw [c1, c2, e1, e2 8 (by omega) (by omega)]
  refine ⟨a1, a2, a3, a4, fun i i0 i1 => ?_⟩
  rw [c3 i i0 (by omega), e2 i i0 (by omega)]
  exact a5 i i0 i1
theorem agS_sy (ha : agS S T) : agS T S := ⟨fun n n0 n1 => ⟨(ha.1 n n0 n1).1.symm, (ha.1 n n0 n1).2.1.symm, (ha.1 n n0 n1).2.2.symm⟩, fun k k0 k1 => ⟨(ha.2.1 k k0 k1).1.symm, (ha.2.1 k k0 k1).2.symm⟩, fun v v0 v1 => (ha.2.2.1 v v0 v1).symm, ha.2.2.2.1.symm, ha.2.2.2.2.1.symm, ha.2.2.2.2.2.1.symm, ha.2.2.2.2.2.2.1.symm, ha.2.2.2.2.2.2.2.symm⟩
theorem agS_rf : agS S S := ⟨fun _ _ _ => ⟨rfl, rfl, rfl⟩, fun _ _ _ => ⟨rfl, rfl⟩, fun _ _ _ => rfl, rfl, rfl, rfl, rfl, rfl⟩
theorem agS_tr {U : Nat → Int → Int} (ha : agS S T) (hb : agS T U) : agS S U := ⟨fun n n0 n1 => ⟨(ha.1 n n0 n1).1.trans (hb.1 n n0 n1).1, (ha.1 n n0 n1).2.1.trans (hb.1 n n0 n1).2.1, (ha.1 n n0 n1).2.2.trans (hb.1 n n0 n1).2.2⟩, fun k k0 k1 => ⟨(ha.2.1 k k0 k1).1.trans (hb.2.1 k k0 k1).1, (ha.2.1 k k0 k1).2.trans (hb.2.1 k k0 k1).2⟩, fun v v0 v1 => (ha.2.2.1 v v0 v1).trans (hb.2.2.1 v v0 v1), ha.2.2.2.1.trans hb.2.2.2.1, ha.2.2.2.2.1.trans hb.2.2.2.2.1, ha.2.2.2.2.2.1.trans hb.2.2.2.2.2.1, ha.2.2.2.2.2.2.1.trans hb.2.2.2.2.2.2.1, ha.2.2.2.2.2.2.2.trans hb.2.2.2.2.2.2.2⟩
theorem agS_of (hq : ∀ j : Nat, j < 7 → S j = T j) : agS S T := by
  have h0 := hq 0 (by omega); have h1 := hq 1 (by omega); have h2 := hq 2 (by omega); have h3 := hq 3 (by omega)
  have h4 := hq 4 (by omega); have h5 := hq 5 (by omega); have h6 := hq 6 (by omega)
  refine ⟨fun n _ _ => ⟨by rw [h1], by rw [h2], by rw [h3]⟩, fun k _ _ => ⟨by rw [h4], by rw [h5]⟩, fun v _ _ => by rw [h6], by rw [h0], by rw [h0], by rw [h0], by rw [h0], by rw [h0]⟩
theorem nS_ag (ha : agS S T) (hn : nS T) : nS S := by
  obtain ⟨n1, n2, n3⟩ := hn
  refine ⟨by rw [ha.2.2.2.1]; exact n1, fun n a b => ?_, fun n m a b c d => ?_⟩
  · obtain ⟨e1, e2, e3⟩ := ha.1 n a b
    rw [e1, e2, e3]; exact n2 n a b
  · rw [(ha.1 n a b).1, (ha.1 m c d).1]; exact n3 n m a b c d
theorem rS_ag (ha : agS S T) (hn : nS T) (hr : rS T r) : rS S r := by
  obtain ⟨r1, r2, r3, r4, r5, r6, r7, r8⟩ := hr
  refine ⟨fun n a b => ?_, fun n c a b c0 c1 => ?_, fun v a b => ?_, ?_, ?_, ?_, ?_, ?_⟩
  · obtain ⟨e1, e2, e3⟩ := ha.1 n a b
    rw [e1, e2, e3]; exact r1 n a b
  · rw [(ha.1 n a b).2.1] at c1
    have := (hn.2.1 n a b).2.1
    have e := ha.2.1 (n * 8 + c) (by omega) (by omega)
    rw [e.1, e.2]; exact r2 n c a b c0 c1
  · rw [ha.2.2.1 v a b]; exact r3 v a b
  · rw [ha.2.2.2.1]; exact r4
  · rw [ha.2.2.2.2.1]; exact r5
  · rw [ha.2.2.2.2.2.1]; exact r6
  · rw [ha.2.2.2.2.2.2.1]; exact r7
  · rw [ha.2.2.2.2.2.2.2]; exact r8
theorem vS_ag (ha : agS S T) (hn : nS T) (hv : vS pk K B T) : vS pk K B S := by
  obtain ⟨s1, s2, s3, s4, s5, s6, s7⟩ := hv
  have e9 := ha.2.2.2.2.2.2.1
  have e60 := ha.2.2.1 0 (by omega) (by omega)
  refine ⟨by rw [e9]; exact s1, by rw [e9, ha.2.2.2.2.1]; exact s2, fun n c a b c0 c1 => ?_, fun v a b => ?_, by rw [e60, e9]; exact s5, ?_, fun n a b => ?_⟩
  · rw [(ha.1 n a b).2.1] at c1
    have := (hn.2.1 n a b).2.1
    rw [(ha.2.1 (n * 8 + c) (by omega) (by omega)).1, e9]
    exact s3 n c a b c0 c1
  · rw [ha.2.2.1 v (by omega) b, e9]; exact s4 v a b
  · rw [ha.2.2.2.1, e60]
    intro hd
    refine ⟨fun hm n a b => ?_, fun hm n a b => ?_⟩
    · rw [(ha.1 n a b).1]; exact (s6 hd).1 hm n a b
    · rw [(ha.1 n a b).1]; exact (s6 hd).2 hm n a b
  · obtain ⟨e1, -, e3⟩ := ha.1 n a b
    have := (hn.2.1 n a b).1
    rw [e1, e3, ha.2.2.1 _ this.1 (by omega)]
    exact s7 n a b
theorem wS_ag (ha : agS S T) (hw : wS pk K B T) : wS pk K B S := ⟨nS_ag ha hw.1, vS_ag ha hw.1 hw.2.1, by rw [ha.2.2.2.2.2.2.2]; exact hw.2.2⟩
theorem wS_eq (e : eqB h K B K' B') (hl : lnE K B h) (hv : vDk pk K B h) (hh : S 0 9 ≤ h) (hw : wS pk K B S) : wS pk K' B' S := ⟨hw.1, vS_eq e hl hv hh hw.2.1, hw.2.2⟩
/-- acts that are kept: the k-th -/
def aI (nx cn k : Int) : Int := (nx - cn + k) % 40
def aG (pk : Int) (K B : Int → Int) (h nx cn : Int) (St : Int → Nat → Int → Int) (P : Int → Int) : Prop := (0 ≤ nx ∧ nx < 40) ∧ (0 ≤ cn ∧ cn ≤ 40) ∧ (∀ k, 0 ≤ k → k < cn → (rS (St (aI nx cn k)) (fun j => P (246 * k + j)) ∧ wS pk K B (St (aI nx cn k))) ∧ St (aI nx cn k) 0 9 ≤ h ∧ ∀ l, k ≤ l → l < cn → St (aI nx cn k) 0 9 ≤ St (aI nx cn l) 0 9) ∧ ∀ q, 0 ≤ q → q < 40 → bS (St q)
theorem bS_ag (ha : agS S T) (hb : bS T) : bS S := ⟨by rw [ha.2.2.2.1]; exact hb.1, fun n n0 n1 => by rw [(ha.1 n n0 n1).2.2]; exact hb.2 n n0 n1⟩
theorem bS_n (hn : nS S) : bS S := ⟨hn.1, fun n a b => (hn.2.1 n a b).2.2.1⟩
theorem aI_b (nx cn k : Int) : 0 ≤ aI nx cn k ∧ aI nx cn k < 40 := by unfold aI; omega
theorem rS_cg {r' : Int → Int} (hq : ∀ j, 0 ≤ j → j < 246 → r' j = r j) (hn : nS S) (hr : rS S r) : rS S r' := by
  obtain ⟨r1, r2, r3, r4, r5, r6, r7, r8⟩ := hr
  refine ⟨fun n a b => ?_, fun n c a b c0 c1 => ?_, fun v a b => ?_, ?_, ?_, ?_, ?_, ?_⟩
  · rw [hq n (by omega) (by omega), hq _ (by omega) (by omega), hq _ (by omega) (by omega)]; exact r1 n a b
  · have := (hn.2.1 n a b).2.1
    rw [hq _ (by omega) (by omega), hq _ (by omega) (by omega)]; exact r2 n c a b c0 c1
  · rw [hq _ (by omega) (by omega)]; exact r3 v a b
  · rw [hq _ (by omega) (by omega)]; exact r4
  · rw [hq _ (by omega) (by omega)]; exact r5
  · rw [hq _ (by omega) (by omega)]; exact r6
  · rw [hq _ (by omega) (by omega)]; exact r7
  · rw [hq _ (by omega) (by omega)]; exact r8
theorem aG_eq {h' nx cn : Int} {St St' : Int → Nat → Int → Int} {P P' : Int → Int} (e : eqB h K B K' B') (hl : lnE K B h) (hv : vDk pk K B h) (hs : ∀ q, 0 ≤ q → q < 40 → agS (St' q) (St q)) (hp : ∀ j, 0 ≤ j → j < 246 * cn → P' j = P j) (hh : h ≤ h') (ha : aG pk K B h nx cn St P) : aG pk K' B' h' nx cn St' P' := by
  obtain ⟨a1, a2, a3, a9⟩ := ha
  refine ⟨a1, a2, fun k k0 k1 => ?_, fun q q0 q1 => bS_ag (hs q q0 q1) (a9 q q0 q1)⟩
  obtain ⟨⟨b1, b2⟩, b3, b4⟩ := a3 k k0 k1
  have hb := aI_b nx cn k
  have hq := hs _ hb.1 hb.2
  have e9 := hq.2.2.2.2.2.2.1
  refine ⟨⟨rS_cg (fun j j0 j1 => hp _ (by omega) (by omega)) (nS_ag hq b2.1) (rS_ag hq b2.1 b1), wS_ag hq (wS_eq e hl hv b3 b2)⟩, by rw [e9]; omega, fun l l0 l1 => ?_⟩
  have hb2 := aI_b nx cn l
  rw [e9, (hs _ hb2.1 hb2.2).2.2.2.2.2.2.1]
  exact b4 l l0 l1
def Rc (D : Nat → Int → Int) : Prop := dOk D (D 619) (D 620) (D 15 9) ∧ (∀ j, 0 ≤ j → j < 4 → D 614 j = D 9 j) ∧ fOk (D 10) (D 614 4) (D 615) ∧ D 613 21 = -1 ∧ rS (stt D 15) (D 617) ∧ wS (D 9 1) (D 619) (D 620) (stt D 15)
def aR (D : Nat → Int → Int) : Prop := aG (D 9 1) (D 619) (D 620) (D 15 9) (D 26 1) (D 26 2) (fun q => stt D (adr q)) (D 626) ∧ D 613 29 = D 26 2
def iR (D : Nat → Int → Int) : Prop := (D 308 0 = 0 ∨ D 308 0 = 1) ∧ D 613 33 = D 308 0 ∧ (D 308 0 = 1 → rDk (D 311) (D 312) (D 313) (D 630) (D 631) (D 315 9) ∧ vDk (D 9 1) (D 630) (D 631) (D 315 9) ∧ D 315 9 ≤ D 9 0 ∧ rS (stt D 315) (D 628) ∧ wS (D 9 1) (D 630) (D 631) (stt D 315) ∧ aG (D 9 1) (D 630) (D 631) (D 315 9) (D 322 1) (D 322 2) (fun q => stt D (bdr q)) (D 629) ∧ D 613 34 = D 322 2 ∧ D 308 4 = D 632 0 ∧ D 308 5 = D 632 1)
def tR (D : Nat → Int → Int) : Prop := D 613 9 = D 0 1 ∧ (0 ≤ D 0 1 ∧ D 0 1 ≤ 700) ∧ D 613 18 = D 0 3 ∧ (∀ j, 0 ≤ j → j < 700 → D 1 j = D 621 j ∧ 0 ≤ D 1 j ∧ D 1 j ≤ 255) ∧ D 616 0 = D 0 8 ∧ D 616 1 = D 0 9
def R (D : Nat → Int → Int) (t : Int) : Prop := Rc D ∧ aR D ∧ iR D ∧ tR D ∧ lkOk D t
/-- the rows that count -/
def cRow (a : Nat) : Prop := a ≤ 1 ∨ (10 ≤ a ∧ a ≤ 13) ∨ (15 ≤ a ∧ a ≤ 21) ∨ a = 26 ∨ (28 ≤ a ∧ a ≤ 308) ∨ (311 ≤ a ∧ a ≤ 313) ∨ (315 ≤ a ∧ a ≤ 603) ∨ (614 ≤ a ∧ a ≤ 617) ∨ (619 ≤ a ∧ a ≤ 621) ∨ a = 626 ∨ (628 ≤ a ∧ a ≤ 632) ∨ a = 100000
def eqR (D E : Nat → Int → Int) : Prop := (∀ a, cRow a → E a = D a) ∧ (E 9 0 = D 9 0 ∧ E 9 1 = D 9 1 ∧ E 9 2 = D 9 2 ∧ E 9 3 = D 9 3) ∧ E 613 9 = D 613 9 ∧ E 613 18 = D 613 18 ∧ E 613 21 = D 613 21 ∧ E 613 29 = D 613 29 ∧ E 613 33 = D 613 33 ∧ E 613 34 = D 613 34
theorem eqR_rf : eqR D D := ⟨fun _ _ => rfl, ⟨rfl, rfl, rfl, rfl⟩, rfl, rfl, rfl, rfl, rfl, rfl⟩
theorem eqR_tr {F : Nat → Int → Int} (e : eqR D E) (f : eqR E F) : eqR D F := by
  obtain ⟨e1, ⟨e2, e3, e4, e5⟩, e7, e8, e9, e10, e11, e12⟩ := e
  obtain ⟨f1, ⟨f2, f3, f4, f5⟩, f7, f8, f9, f10, f11, f12⟩ := f
  exact ⟨fun a ha => (f1 a ha).trans (e1 a ha), ⟨f2.trans e2, f3.trans e3, f4.trans e4, f5.trans e5⟩, f7.trans e7, f8.trans e8, f9.trans e9, f10.trans e10, f11.trans e11, f12.trans e12⟩
theorem eqR_stt (e : eqR D E) {a : Nat} (ha : ∀ j : Nat, j < 7 → cRow (a + j)) : agS (stt E a) (stt D a) := agS_of fun j hj => e.1 _ (ha j hj)
theorem dOk_eqR (e : eqR D E) (hd : dOk D K B h) : dOk E K B h := dOk_of e.2.1.1 e.2.1.2.1 e.2.1.2.2.1 e.2.1.2.2.2 (e.1 11 (by unfold cRow; omega)) (e.1 12 (by unfold cRow; omega)) (e.1 13 (by unfold cRow; omega)) hd
theorem Rc_eq (e : eqR D E) (hr : Rc D) : Rc E := by
  obtain ⟨r1, r2, r3, r4, r5, r6⟩ := hr
  have e15 := e.1 15 (by unfold cRow; omega)
  have ha := eqR_stt e (a := 15) (fun j hj => by unfold cRow; omega)
  unfold Rc
  rw [e.1 619 (by unfold cRow; omega), e.1 620 (by unfold cRow; omega), e.1 614 (by unfold cRow; omega), e.1 615 (by unfold cRow; omega), e.1 617 (by unfold cRow; omega), e.1 10 (by unfold cRow; omega), e15, e.2.1.2.1, e.2.2.2.2.1]
  refine ⟨dOk_eqR e r1, fun j j0 j1 => ?_, r3, r4, rS_ag ha r6.1 r5, wS_ag ha r6⟩
  have h4 : j = 0 ∨ j = 1 ∨ j = 2 ∨ j = 3 := by omega
  rw [r2 j j0 j1]
  rcases h4 with rfl | rfl | rfl | rfl
  · exact e.2.1.1.symm
  · exact e.2.1.2.1.symm
  · exact e.2.1.2.2.1.symm
  · exact e.2.1.2.2.2.symm
theorem adr_c {q : Int} (h1 : q < 40) {j : Nat} (hj : j < 7) : cRow (adr q + j) := by unfold cRow adr; omega
theorem bdr_c {q : Int} (h1 : q < 40) {j : Nat} (hj : j < 7) : cRow (bdr q + j) := by unfold cRow bdr; omega
theorem aR_eq (e : eqR D E) (hc : Rc D) (hr : aR D) : aR E := by
  unfold aR
  rw [e.1 619 (by unfold cRow; omega), e.1 620 (by unfold cRow; omega), e.1 626 (by unfold cRow; omega), e.1 26 (by unfold cRow; omega), e.1 15 (by unfold cRow; omega), e.2.1.2.1, e.2.2.2.2.2.1]
  exact ⟨aG_eq eqB_rf (rDk_ln hc.1.2.1) hc.1.2.2.1 (fun q q0 q1 => eqR_stt e (fun j hj => adr_c q1 hj)) (fun _ _ _ => rfl) (Int.le_refl _) hr.1, hr.2⟩
theorem iR_eq (e : eqR D E) (hr : iR D) : iR E := by
  obtain ⟨r1, r2, r3⟩ := hr
  have ha := eqR_stt e (a := 315) (fun j hj => by unfold cRow; omega)
  unfold iR
  rw [e.1 308 (by unfold cRow; omega), e.1 311 (by unfold cRow; omega), e.1 312 (by unfold cRow; omega), e.1 313 (by unfold cRow; omega), e.1 630 (by unfold cRow; omega), e.1 631 (by unfold cRow; omega), e.1 315 (by unfold cRow; omega), e.1 628 (by unfold cRow; omega), e.1 629 (by unfold cRow; omega), e.1 632 (by unfold cRow; omega), e.1 322 (by unfold cRow; omega), e.2.1.1, e.2.1.2.1, e.2.2.2.2.2.2.1, e.2.2.2.2.2.2.2]
  refine ⟨r1, r2, fun hp => ?_⟩
  obtain ⟨q1, q2, q3, q4, q5, q6, q7⟩ := r3 hp
  exact ⟨q1, q2, q3, rS_ag ha q5.1 q4, wS_ag ha q5, aG_eq eqB_rf (rDk_ln q1) q2 (fun q q0 q1 => eqR_stt e (fun j hj => bdr_c q1 hj)) (fun _ _ _ => rfl) (Int.le_refl _) q6, q7⟩
theorem tR_eq (e : eqR D E) (hr : tR D) : tR E := by
  unfold tR
  rw [e.1 0 (by unfold cRow; omega), e.1 1 (by unfold cRow; omega), e.1 621 (by unfold cRow; omega), e.1 616 (by unfold cRow; omega), e.2.2.1, e.2.2.2.1]
  exact hr
theorem R_eq {t t' : Int} (e : eqR D E) (hl : lkOk E t') (hr : R D t) : R E t' := by
  obtain ⟨r1, r2, r3, r4, r5⟩ := hr
  exact ⟨Rc_eq e r1, aR_eq e r1 r2, iR_eq e r3, tR_eq e r4, hl⟩
theorem lk_mono {t t' : Int} (hl : lkOk D t) (ht : t ≤ t') : lkOk D t' := ⟨⟨hl.1.1, by have := hl.1.2; omega⟩, hl.2⟩
theorem R_mono {t t' : Int} (hr : R D t) (ht : t ≤ t') : R D t' := ⟨hr.1, hr.2.1, hr.2.2.1, hr.2.2.2.1, lk_mono hr.2.2.2.2 ht⟩
theorem eqR_up {a : Nat} {i v : Int} (ha : ¬ cRow a) (h9 : a ≠ 9) (h6 : a ≠ 613) : eqR D (cm_up D a i v) := by
  refine ⟨fun b hb => up_row (fun z => ha (z ▸ hb)), ?_⟩
  rw [up_row (Ne.symm h9), up_row (Ne.symm h6)]
  exact ⟨⟨rfl, rfl, rfl, rfl⟩, rfl, rfl, rfl, rfl, rfl, rfl⟩
theorem eqR_ua {a : Nat} {g : Int → Int} (ha : ¬ cRow a) (h9 : a ≠ 9) (h6 : a ≠ 613) : eqR D (cm_ua D a g) := by
  refine ⟨fun b hb => ua_row (fun z => ha (z ▸ hb)), ?_⟩
  rw [ua_row (Ne.symm h9), ua_row (Ne.symm h6)]
  exact ⟨⟨rfl, rfl, rfl, rfl⟩, rfl, rfl, rfl, rfl, rfl, rfl⟩
theorem eqR_6 {i v : Int} (hi : i ≠ 9 ∧ i ≠ 18 ∧ i ≠ 21 ∧ i ≠ 29 ∧ i ≠ 33 ∧ i ≠ 34) : eqR D (cm_up D 613 i v) := by
  refine ⟨fun b hb => up_row (fun z => by rw [z] at hb; unfold cRow at hb; omega), ?_⟩
  rw [up_row (by omega : (9 : Nat) ≠ 613), up_same]
  refine ⟨⟨rfl, rfl, rfl, rfl⟩, if_neg (by omega), if_neg (by omega), if_neg (by omega), if_neg (by omega), if_neg (by omega), if_neg (by omega)⟩
theorem eqR_9 {i v : Int} (hi : i ≠ 0 ∧ i ≠ 1 ∧ i ≠ 2 ∧ i ≠ 3) : eqR D (cm_up D 9 i v) := by
  refine ⟨fun b hb => up_row (fun z => by rw [z] at hb; unfold cRow at hb; omega), ?_⟩
  rw [up_row (by omega : (613 : Nat) ≠ 9), up_same]
  exact ⟨⟨if_neg (by omega), if_neg (by omega), if_neg (by omega), if_neg (by omega)⟩, rfl, rfl, rfl, rfl, rfl, rfl⟩
theorem eqR_14 {q : Int} {g : Int → Int} : eqR D (mk14 D q g) := eqR_tr (eqR_9 (i := 10) (v := q) (by omega)) (eqR_ua (by unfold cRow; omega) (by omega) (by omega))
theorem Rc_md (hr : Rc D) : mdOk D (D 15 9) := by
  have e1 := hr.2.1 1 (by omega) (by omega)
  have hz := hr.1.1.2.1
  refine ⟨by rw [e1]; exact d_g hr.1, hr.2.2.2.2.1.2.2.2.2.2.2.1, by omega, by omega⟩
