/-! names that the tables of words need -/
abbrev cm_vw : List vw_C := [(RX0, TX0, 3), (RX1, TX1, 4), (RX2, TX2, 11), (RX3, TX3, 1), (RX4, TX4, 6), (RX5, TX5, 14), (RX6, TX6, 11), (RX7, TX7, 7), (RX8, TX8, 14), (RX9, TX9, 40)]
/-- a field's kind: 0 int, 1 boolean, 2 a reference -/
def cm_tc (d : String) : Nat := if d = "I" then 0 else if d = "Z" then 1 else 2
/-- words that stay -/
def cm_two (w : Cond) : Bool := match w with
  | .methodLinkNest .. => true
  | .fieldLinkNest .. => true
  | .declares _ => true
  | .castable .. => true
  | w => goodWord w
theorem cm_two_ot {w : Cond} (h : cm_two w = true) : w.onTables = true ∨ ∃ ty, w = .arrayClass ty := by
  cases w <;> first | exact Or.inl rfl | exact Or.inr ⟨_, rfl⟩ | (simp [cm_two, goodWord, Cond.onTables, Cond.keeps, Cond.steady] at h)
theorem cm_two_at {args a' : Array Value} {s U : State} (hW : s.WarmedH U.vm) {w : Cond} (hw : cm_two w = true) (h : w.before args s = true) : w.before a' U = true := by
  cases w with
  | methodLinkNest a b c d => exact va_Nw.use rfl (va_Nw.warmM hW (va_Nw.of rfl h))
  | fieldLinkNest a b c d e f => exact va_Nw.use rfl (va_Nw.warmF hW (va_Nw.of rfl h))
  | declares x => exact va_Nw.use rfl (va_Nw.warmD hW (va_Nw.of rfl h))
  | castable a b => exact va_Nw.use rfl (va_Nw.warmC hW (va_Nw.of rfl h))
  | _ => exact word_at hW (good_of_word hw) h
/-- the texts: of each a place in a pool -/
def cm_strs : List (String × Nat × String) := [("OnceVolume", 88, "the tape has not so many bytes"), ("OnceVolume", 173, "no such count"), ("OnceVolume", 197, "no such block"), ("OnceVolume", 199, "no such what"), ("OnceVolume", 192, "the block tells nothing such"), ("OnceVolume", 232, "no such file"), ("OnceVolume", 223, "no such cell"), ("OnceVolume", 252, "no such map"), ("OnceVolume", 257, "no such name"), ("OnceVolume", 375, "the disc has not so many blocks"), ("OnceVolume", 397, "spared is 0 to 5, tenths are 0 to 10"), ("OnceVolume", 405, "n is 0 to 60")]
def cm_lits : List (String × Nat × String) := [("OnceVolume$Reader", 74, "disc"), ("OnceVolume$Reader", 83, "bad"), ("OnceVolume$Reader", 87, "file"), ("OnceVolumeModel", 164, "disc"), ("OnceVolumeModel", 173, "bad"), ("OnceVolumeModel", 177, "file")]
def cm_len : List Nat := [4, 3, 4, 4, 3, 4]
def cm_byt : List (List Int32) := [[100, 105, 115, 99], [98, 97, 100], [102, 105, 108, 101], [100, 105, 115, 99], [98, 97, 100], [102, 105, 108, 101]]
