/-! the claim's walk -/
theorem whole_start {p : Program} {e : Env} {s : State} {m : MethodId} {below : List Frame} {meth : Method} {c : Code} (l : Launch) (hflags : l.flags = flags0) {b L : Nat} {xs : Nat → Int32} (hL : L ≤ 3072) (C0 : lw_At p s m meth c b L xs) : W p l e room_1 s m #[Value.ref b] below meth c s.heap [] 0 0 (lw_Z below #[Value.ref b] s) (entryFrame m ([Value.ref b] : List Value).toArray 8) := by
  obtain ⟨E, e1, hR, hI⟩ := law_start L (cm_xi xs)
  have hi : ∀ j, i32 (E 100000 j) := fun j => by
    rw [hI]
    exact ⟨Int32.le_toInt _, Int32.toInt_lt _⟩
  obtain ⟨F, X1, e2, x1, x2⟩ := law_loop hL 512 0 0 E (cm_z0, 634, 73303, L) rfl hR (by omega) (by omega) hi (by omega) (by omega) (by omega)
  have x1 : X1.2.1 ≤ 634 + 512 := x1
  have x2 : X1.2.2.1 ≤ 73303 + 6 * 512 := x2
  refine cm_whole l hflags hL C0 (e1.trans e2) ?_ ?_
  · show X1.2.1 ≤ 601024
    omega
  · show X1.2.2.1 ≤ 7293034
    omega
