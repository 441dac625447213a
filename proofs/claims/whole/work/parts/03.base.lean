/-! ===== names: classes, fields, methods (read off the claim by program) ===== -/
abbrev R_Coast : String := "DonkeyLight$Coast"
def T_Coast : u_T := fun k => match k with
  | 0 => ("DonkeyLight$Coast", "many", "LDonkeyLight$Row;", true)
  | 1 => ("DonkeyLight$Coast", "reefs", "LDonkeyLight$Row;", true)
  | 2 => ("DonkeyLight$Coast", "lightCells", "LDonkeyLight$Row;", true)
  | 3 => ("DonkeyLight$Coast", "lightPeriods", "LDonkeyLight$Row;", true)
  | 4 => ("DonkeyLight$Coast", "donkeyCells", "LDonkeyLight$Row;", true)
  | 5 => ("DonkeyLight$Coast", "donkeyPeriods", "LDonkeyLight$Row;", true)
  | 6 => ("DonkeyLight$Coast", "cargo", "LDonkeyLight$Row;", true)
  | 7 => ("DonkeyLight$Coast", "crew", "LDonkeyLight$Row;", true)
  | 8 => ("DonkeyLight$Coast", "trust", "LDonkeyLight$Row;", true)
  | 9 => ("DonkeyLight$Coast", "draught", "LDonkeyLight$Row;", true)
  | 10 => ("DonkeyLight$Coast", "heads", "LDonkeyLight$Row;", true)
  | _ => ("DonkeyLight$Coast", "sight", "I", false)
abbrev R_FlashLog : String := "DonkeyLight$FlashLog"
def T_FlashLog : u_T := fun k => match k with
  | 0 => ("DonkeyLight$FlashLog", "told", "LDonkeyLight$Row;", true)
  | _ => ("DonkeyLight$FlashLog", "lines", "I", false)
abbrev R_History : String := "DonkeyLight$History"
def T_History : u_T := fun k => match k with
  | 0 => ("DonkeyLight$History", "ahead", "LDonkeyLight$Row;", true)
  | 1 => ("DonkeyLight$History", "imaged", "LDonkeyLight$Row;", true)
  | 2 => ("DonkeyLight$History", "imagedWorks", "LDonkeyLight$Row;", true)
  | 3 => ("DonkeyLight$History", "works", "I", false)
  | _ => ("DonkeyLight$History", "images", "I", false)
abbrev R_Law : String := "DonkeyLight$Law"
def T_Law : u_T := fun k => match k with
  | 0 => ("DonkeyLight$Law", "kinds", "LDonkeyLight$Row;", true)
  | 1 => ("DonkeyLight$Law", "numbers", "LDonkeyLight$Row;", true)
  | 2 => ("DonkeyLight$Law", "inputs", "LDonkeyLight$Row;", true)
  | 3 => ("DonkeyLight$Law", "stack", "LDonkeyLight$Row;", true)
  | _ => ("DonkeyLight$Law", "size", "I", false)
abbrev R_Nights : String := "DonkeyLight$Nights"
def T_Nights : u_T := fun k => match k with
  | _ => ("DonkeyLight$Nights", "row", "LDonkeyLight$Row;", true)
abbrev R_Passing : String := "DonkeyLight$Passing"
def T_Passing : u_T := fun k => match k with
  | 0 => ("DonkeyLight$Passing", "seenIn", "LDonkeyLight$Row;", true)
  | 1 => ("DonkeyLight$Passing", "darkIn", "LDonkeyLight$Row;", true)
  | 2 => ("DonkeyLight$Passing", "known", "LDonkeyLight$Row;", true)
  | _ => ("DonkeyLight$Passing", "steers", "LDonkeyLight$Row;", true)
abbrev R_Plans : String := "DonkeyLight$Plans"
def T_Plans : u_T := fun k => match k with
  | 0 => ("DonkeyLight$Plans", "without", "LDonkeyLight$Row;", true)
  | 1 => ("DonkeyLight$Plans", "donkeySeen", "LDonkeyLight$Row;", true)
  | 2 => ("DonkeyLight$Plans", "worth", "I", false)
  | 3 => ("DonkeyLight$Plans", "donkeyCells", "I", false)
  | 4 => ("DonkeyLight$Plans", "lampCell", "I", false)
  | _ => ("DonkeyLight$Plans", "lampPeriod", "I", false)
abbrev R_Row : String := "DonkeyLight$Row"
def T_Row : u_T := fun k => match k with
  | _ => ("DonkeyLight$Row", "items", "[I", true)
abbrev R_Tape : String := "DonkeyLight$Tape"
def T_Tape : u_T := fun k => match k with
  | 0 => ("DonkeyLight$Tape", "bytes", "LDonkeyLight$Row;", true)
  | 1 => ("DonkeyLight$Tape", "held", "I", false)
  | 2 => ("DonkeyLight$Tape", "length", "I", false)
  | 3 => ("DonkeyLight$Tape", "place", "I", false)
  | 4 => ("DonkeyLight$Tape", "itemStart", "I", false)
  | 5 => ("DonkeyLight$Tape", "faultKind", "I", false)
  | _ => ("DonkeyLight$Tape", "faultPlace", "I", false)
abbrev R_Winter : String := "DonkeyLight$Winter"
def T_Winter : u_T := fun k => match k with
  | 0 => ("DonkeyLight$Winter", "lived", "LDonkeyLight$Nights;", true)
  | 1 => ("DonkeyLight$Winter", "seed", "I", false)
  | _ => ("DonkeyLight$Winter", "foggy", "I", false)
abbrev R_Work : String := "DonkeyLight$Work"
def T_Work : u_T := fun k => match k with
  | 0 => ("DonkeyLight$Work", "kinds", "LDonkeyLight$Row;", true)
  | 1 => ("DonkeyLight$Work", "firsts", "LDonkeyLight$Row;", true)
  | 2 => ("DonkeyLight$Work", "seconds", "LDonkeyLight$Row;", true)
  | 3 => ("DonkeyLight$Work", "size", "I", false)
  | 4 => ("DonkeyLight$Work", "begun", "I", false)
  | 5 => ("DonkeyLight$Work", "done", "I", false)
  | _ => ("DonkeyLight$Work", "refused", "I", false)
abbrev R_DL : String := "DonkeyLight"
def T_DL : u_T := fun k => match k with
  | 0 => ("DonkeyLight", "tape", "LDonkeyLight$Tape;", true)
  | 1 => ("DonkeyLight", "coast", "LDonkeyLight$Coast;", true)
  | 2 => ("DonkeyLight", "coastDraft", "LDonkeyLight$Coast;", true)
  | 3 => ("DonkeyLight", "law", "LDonkeyLight$Law;", true)
  | 4 => ("DonkeyLight", "lawDraft", "LDonkeyLight$Law;", true)
  | 5 => ("DonkeyLight", "log", "LDonkeyLight$FlashLog;", true)
  | 6 => ("DonkeyLight", "logDraft", "LDonkeyLight$FlashLog;", true)
  | 7 => ("DonkeyLight", "work", "LDonkeyLight$Work;", true)
  | 8 => ("DonkeyLight", "nights", "LDonkeyLight$Nights;", true)
  | 9 => ("DonkeyLight", "passing", "LDonkeyLight$Passing;", true)
  | 10 => ("DonkeyLight", "plans", "LDonkeyLight$Plans;", true)
  | 11 => ("DonkeyLight", "winter", "LDonkeyLight$Winter;", true)
  | 12 => ("DonkeyLight", "history", "LDonkeyLight$History;", true)
  | 13 => ("DonkeyLight", "madeRows", "LDonkeyLight$Row;", true)
  | 14 => ("DonkeyLight", "refusedSteps", "I", false)
  | 15 => ("DonkeyLight", "missingCalls", "I", false)
  | _ => ("DonkeyLight", "wrongCalls", "I", false)
abbrev R_Mo : String := "DonkeyLightModel"
def T_Mo : u_T := fun k => match k with
  | 0 => ("DonkeyLightModel", "thrown", "I", false)
  | 1 => ("DonkeyLightModel", "tape", "I", false)
  | 2 => ("DonkeyLightModel", "size", "I", false)
  | 3 => ("DonkeyLightModel", "place", "I", false)
  | 4 => ("DonkeyLightModel", "at", "I", false)
  | 5 => ("DonkeyLightModel", "fault", "I", false)
  | 6 => ("DonkeyLightModel", "faultAt", "I", false)
  | 7 => ("DonkeyLightModel", "clauses", "I", false)
  | 8 => ("DonkeyLightModel", "open", "I", false)
  | 9 => ("DonkeyLightModel", "fed", "[I", true)
  | 10 => ("DonkeyLightModel", "refused", "[I", true)
  | 11 => ("DonkeyLightModel", "readTold", "[I", true)
  | 12 => ("DonkeyLightModel", "told", "[I", true)
  | 13 => ("DonkeyLightModel", "readReef", "[I", true)
  | 14 => ("DonkeyLightModel", "reef", "[I", true)
  | 15 => ("DonkeyLightModel", "readDoor", "[I", true)
  | 16 => ("DonkeyLightModel", "door", "[I", true)
  | 17 => ("DonkeyLightModel", "readLight", "[[I", true)
  | 18 => ("DonkeyLightModel", "light", "[[I", true)
  | 19 => ("DonkeyLightModel", "readDonkey", "[[I", true)
  | 20 => ("DonkeyLightModel", "donkey", "[[I", true)
  | 21 => ("DonkeyLightModel", "readShip", "[[I", true)
  | 22 => ("DonkeyLightModel", "ship", "[[I", true)
  | 23 => ("DonkeyLightModel", "lawMany", "I", false)
  | 24 => ("DonkeyLightModel", "readLawMany", "I", false)
  | 25 => ("DonkeyLightModel", "law", "[[I", true)
  | 26 => ("DonkeyLightModel", "readLaw", "[[I", true)
  | 27 => ("DonkeyLightModel", "log", "[[I", true)
  | 28 => ("DonkeyLightModel", "readLog", "[[I", true)
  | 29 => ("DonkeyLightModel", "stack", "[I", true)
  | 30 => ("DonkeyLightModel", "known", "[I", true)
  | 31 => ("DonkeyLightModel", "step", "[[I", true)
  | 32 => ("DonkeyLightModel", "steps", "I", false)
  | 33 => ("DonkeyLightModel", "now", "[I", true)
  | 34 => ("DonkeyLightModel", "trial", "[I", true)
  | 35 => ("DonkeyLightModel", "before", "[[I", true)
  | 36 => ("DonkeyLightModel", "kept", "[[I", true)
  | 37 => ("DonkeyLightModel", "lines", "I", false)
  | 38 => ("DonkeyLightModel", "works", "I", false)
  | 39 => ("DonkeyLightModel", "refusedSteps", "I", false)
  | 40 => ("DonkeyLightModel", "images", "I", false)
  | 41 => ("DonkeyLightModel", "spot", "I", false)
  | 42 => ("DonkeyLightModel", "struckAt", "I", false)
  | 43 => ("DonkeyLightModel", "steered", "I", false)
  | 44 => ("DonkeyLightModel", "flashes", "I", false)
  | 45 => ("DonkeyLightModel", "firstBlind", "I", false)
  | 46 => ("DonkeyLightModel", "begun", "I", false)
  | 47 => ("DonkeyLightModel", "doneSteps", "I", false)
  | 48 => ("DonkeyLightModel", "lots", "I", false)
  | _ => ("DonkeyLightModel", "foggy", "I", false)
/-! THE LAYER: one world for the class and the reference; its whole state is one function σ (object, place) ↦ number. -/
abbrev St : Type := Nat → Nat → Int32
/-- addresses of the objects; classes' numbers and slots; the class of int[], of int[][]; addresses of the String constants and of their bytes -/
abbrev Gz : Type := (Nat → Nat) × va_G × ClassId × ClassId × (Nat → Nat) × (Nat → Nat)
def up (σ : St) (o k : Nat) (v : Int32) : St := fun o' => if o' = o then upd (σ o) k v else σ o'
abbrev zcl : List vw_C := [(R_Coast, T_Coast, 12), (R_FlashLog, T_FlashLog, 2), (R_History, T_History, 5), (R_Law, T_Law, 5), (R_Nights, T_Nights, 1), (R_Passing, T_Passing, 4), (R_Plans, T_Plans, 6), (R_Row, T_Row, 1), (R_Tape, T_Tape, 7), (R_Winter, T_Winter, 3), (R_Work, T_Work, 7), (R_DL, T_DL, 17), (R_Mo, T_Mo, 50)]
abbrev ztys (G : Gz) : List (ClassId × FieldType) := [(G.2.2.1, .int), (G.2.2.2.1, .array .int)]
/-- a Row at o: its array at o + 1 -/
abbrev zrow (G : Gz) (o : Nat) : va_E := .inr (7, [.ref (G.1 (o + 1))])
abbrev zarr (G : Gz) (n : Nat) (f : Nat → Int32) : va_E := .inl (G.2.2.1, n, .inl f)
/-- an int[][] of n rows, the first at o -/
abbrev zars (G : Gz) (n o : Nat) : va_E := .inl (G.2.2.2.1, n, .inr (.inr (.inr (.inr (fun k => some (G.1 (o + k)))))))
abbrev zcoast (G : Gz) (o : Nat) (f : Nat → Int32) : va_E := .inr (0, [.ref (G.1 (o + 1)), .ref (G.1 (o + 3)), .ref (G.1 (o + 5)), .ref (G.1 (o + 7)), .ref (G.1 (o + 9)), .ref (G.1 (o + 11)), .ref (G.1 (o + 13)), .ref (G.1 (o + 15)), .ref (G.1 (o + 17)), .ref (G.1 (o + 19)), .ref (G.1 (o + 21)), .int (f 11)])
abbrev zlaw (G : Gz) (o : Nat) (f : Nat → Int32) : va_E := .inr (3, [.ref (G.1 (o + 1)), .ref (G.1 (o + 3)), .ref (G.1 (o + 5)), .ref (G.1 (o + 7)), .int (f 4)])
abbrev zlog (G : Gz) (o : Nat) (f : Nat → Int32) : va_E := .inr (1, [.ref (G.1 (o + 1)), .int (f 1)])
abbrev znights (G : Gz) (o : Nat) : va_E := .inr (4, [.ref (G.1 (o + 1))])
def zt (G : Gz) : List ((Nat → Int32) → va_E) := [fun f => .inr (11, [.ref (G.1 1), .ref (G.1 4), .ref (G.1 27), .ref (G.1 50), .ref (G.1 59), .ref (G.1 68), .ref (G.1 71), .ref (G.1 74), .ref (G.1 81), .ref (G.1 84), .ref (G.1 93), .ref (G.1 98), .ref (G.1 102), .ref (G.1 109), .int (f 14), .int (f 15), .int (f 16)]),
  fun f => .inr (8, [.ref (G.1 2), .int (f 1), .int (f 2), .int (f 3), .int (f 4), .int (f 5), .int (f 6)]),
  fun f => zrow G 2,
  fun f => zarr G 600 f,
  fun f => zcoast G 4 f,
  fun f => zrow G 5,
  fun f => zarr G 6 f,
  fun f => zrow G 7,
  fun f => zarr G 12 f,
  fun f => zrow G 9,
  fun f => zarr G 6 f,
  fun f => zrow G 11,
  fun f => zarr G 6 f,
  fun f => zrow G 13,
  fun f => zarr G 3 f,
  fun f => zrow G 15,
  fun f => zarr G 3 f,
  fun f => zrow G 17,
  fun f => zarr G 6 f,
  fun f => zrow G 19,
  fun f => zarr G 6 f,
  fun f => zrow G 21,
  fun f => zarr G 6 f,
  fun f => zrow G 23,
  fun f => zarr G 6 f,
  fun f => zrow G 25,
  fun f => zarr G 6 f,
  fun f => zcoast G 27 f,
  fun f => zrow G 28,
  fun f => zarr G 6 f,
  fun f => zrow G 30,
  fun f => zarr G 12 f,
  fun f => zrow G 32,
  fun f => zarr G 6 f,
  fun f => zrow G 34,
  fun f => zarr G 6 f,
  fun f => zrow G 36,
  fun f => zarr G 3 f,
  fun f => zrow G 38,
  fun f => zarr G 3 f,
  fun f => zrow G 40,
  fun f => zarr G 6 f,
  fun f => zrow G 42,
  fun f => zarr G 6 f,
  fun f => zrow G 44,
  fun f => zarr G 6 f,
  fun f => zrow G 46,
  fun f => zarr G 6 f,
  fun f => zrow G 48,
  fun f => zarr G 6 f,
  fun f => zlaw G 50 f,
  fun f => zrow G 51,
  fun f => zarr G 150 f,
  fun f => zrow G 53,
  fun f => zarr G 150 f,
  fun f => zrow G 55,
  fun f => zarr G 9 f,
  fun f => zrow G 57,
  fun f => zarr G 150 f,
  fun f => zlaw G 59 f,
  fun f => zrow G 60,
  fun f => zarr G 150 f,
  fun f => zrow G 62,
  fun f => zarr G 150 f,
  fun f => zrow G 64,
  fun f => zarr G 9 f,
  fun f => zrow G 66,
  fun f => zarr G 150 f,
  fun f => zlog G 68 f,
  fun f => zrow G 69,
  fun f => zarr G 60 f,
  fun f => zlog G 71 f,
  fun f => zrow G 72,
  fun f => zarr G 60 f,
  fun f => .inr (10, [.ref (G.1 75), .ref (G.1 77), .ref (G.1 79), .int (f 3), .int (f 4), .int (f 5), .int (f 6)]),
  fun f => zrow G 75,
  fun f => zarr G 150 f,
  fun f => zrow G 77,
  fun f => zarr G 150 f,
  fun f => zrow G 79,
  fun f => zarr G 150 f,
  fun f => znights G 81,
  fun f => zrow G 82,
  fun f => zarr G 29 f,
  fun f => .inr (5, [.ref (G.1 85), .ref (G.1 87), .ref (G.1 89), .ref (G.1 91)]),
  fun f => zrow G 85,
  fun f => zarr G 12 f,
  fun f => zrow G 87,
  fun f => zarr G 12 f,
  fun f => zrow G 89,
  fun f => zarr G 72 f,
  fun f => zrow G 91,
  fun f => zarr G 72 f,
  fun f => .inr (6, [.ref (G.1 94), .ref (G.1 96), .int (f 2), .int (f 3), .int (f 4), .int (f 5)]),
  fun f => zrow G 94,
  fun f => zarr G 12 f,
  fun f => zrow G 96,
  fun f => zarr G 36 f,
  fun f => .inr (9, [.ref (G.1 99), .int (f 1), .int (f 2)]),
  fun f => znights G 99,
  fun f => zrow G 100,
  fun f => zarr G 29 f,
  fun f => .inr (2, [.ref (G.1 103), .ref (G.1 105), .ref (G.1 107), .int (f 3), .int (f 4)]),
  fun f => zrow G 103,
  fun f => zarr G 464 f,
  fun f => zrow G 105,
  fun f => zarr G 1479 f,
  fun f => zrow G 107,
  fun f => zarr G 3 f,
  fun f => zrow G 109,
  fun f => zarr G 256 f,
  fun f => .inr (12, [.int (f 0), .int (f 1), .int (f 2), .int (f 3), .int (f 4), .int (f 5), .int (f 6), .int (f 7), .int (f 8), .ref (G.1 112), .ref (G.1 113), .ref (G.1 114), .ref (G.1 115), .ref (G.1 116), .ref (G.1 117), .ref (G.1 118), .ref (G.1 119), .ref (G.1 124), .ref (G.1 125), .ref (G.1 126), .ref (G.1 127), .ref (G.1 128), .ref (G.1 129), .int (f 23), .int (f 24), .ref (G.1 130), .ref (G.1 131), .ref (G.1 132), .ref (G.1 133), .ref (G.1 120), .ref (G.1 121), .ref (G.1 134), .int (f 32), .ref (G.1 122), .ref (G.1 123), .ref (G.1 135), .ref (G.1 136), .int (f 37), .int (f 38), .int (f 39), .int (f 40), .int (f 41), .int (f 42), .int (f 43), .int (f 44), .int (f 45), .int (f 46), .int (f 47), .int (f 48), .int (f 49)]),
  fun f => zarr G 600 f,
  fun f => zarr G 2 f,
  fun f => zarr G 6 f,
  fun f => zarr G 6 f,
  fun f => zarr G 12 f,
  fun f => zarr G 12 f,
  fun f => zarr G 6 f,
  fun f => zarr G 6 f,
  fun f => zarr G 160 f,
  fun f => zarr G 9 f,
  fun f => zarr G 31 f,
  fun f => zarr G 31 f,
  fun f => zars G 6 137,
  fun f => zars G 6 143,
  fun f => zars G 3 149,
  fun f => zars G 3 152,
  fun f => zars G 6 155,
  fun f => zars G 6 161,
  fun f => zars G 160 167,
  fun f => zars G 160 327,
  fun f => zars G 12 487,
  fun f => zars G 12 499,
  fun f => zars G 80 511,
  fun f => zars G 16 591,
  fun f => zars G 3 607]
def zlen (o : Nat) : Nat := if o < 155 then 2 else if o < 167 then 4 else if o < 511 then 2 else if o < 591 then 4 else if o < 607 then 31 else 528
def zs (G : Gz) (o : Nat) (f : Nat → Int32) : va_E := match (zt G)[o]? with
  | some h => h f
  | none => zarr G (zlen o) f
def zw (G : Gz) (σ : St) : va_W := (List.range 610).map fun o => (G.1 o, zs G o (σ o))
/-- the addresses are apart -/
def zI (G : Gz) : Prop := ∀ i j : Nat, i < 610 → j < 610 → G.1 i = G.1 j → i = j
def zA (G : Gz) (sz : Nat) : Nat → Prop := fun q => (∃ o : Nat, o < 610 ∧ G.1 o = q) ∨ sz ≤ q
theorem zA_mono {G : Gz} {a b : Nat} (h : a ≤ b) : ∀ q, zA G b q → zA G a q := fun q hq => hq.elim Or.inl (fun z => Or.inr (Nat.le_trans h z))
theorem zw_get {G : Gz} {σ : St} {o : Nat} (h : o < 610) : (zw G σ)[o]? = some (G.1 o, zs G o (σ o)) := by
  simp [zw, h]
theorem zw_get' {G : Gz} {σ : St} {o : Nat} {e : va_E} (h : o < 610) (he : zs G o (σ o) = e) : (zw G σ)[o]? = some (G.1 o, e) := by rw [zw_get h, he]
theorem zw_inv {G : Gz} {σ : St} {k : Nat} {q : Nat × va_E} (h : (zw G σ)[k]? = some q) : k < 610 ∧ q = (G.1 k, zs G k (σ k)) := by
  have hk : k < 610 := by
    have := (List.getElem?_eq_some_iff.mp h).1
    simpa [zw] using this
  rw [zw_get hk] at h
  exact ⟨hk, (Option.some.inj h).symm⟩
theorem zw_set {G : Gz} {σ : St} {o k : Nat} {v : Int32} {e : va_E} (he : zs G o (upd (σ o) k v) = e) : (zw G σ).set o (G.1 o, e) = zw G (up σ o k v) := by
  apply List.ext_getElem?
  intro i
  rw [List.getElem?_set]
  by_cases hi : o = i
  · subst hi
    rw [if_pos rfl]
    by_cases ho : o < 610
    · rw [if_pos (by simpa [zw] using ho), zw_get ho]
      simp [up, he]
    · rw [if_neg (by simpa [zw] using ho)]
      simp [zw, ho]
  · rw [if_neg hi]
    by_cases ho : i < 610
    · rw [zw_get ho, zw_get ho]
      have : (up σ o k v) i = σ i := by simp [up, Ne.symm hi]
      rw [this]
    · simp [zw, ho]
theorem zw_D {G : Gz} (h : zI G) (σ : St) (sz : Nat) : va_D (zA G sz) (zw G σ) := by
  refine ⟨fun i j p q hp hq e => ?_, fun k q hq => ?_⟩
  · obtain ⟨h1, rfl⟩ := zw_inv hp
    obtain ⟨h2, rfl⟩ := zw_inv hq
    exact h i j h1 h2 e
  · obtain ⟨h1, rfl⟩ := zw_inv hq
    exact Or.inl ⟨k, h1, rfl⟩
def zNW (U : State) : Prop := (∀ (a : String) (i : Nat) (x : MethodName) (h : String), Cond.methodLinkNest a i x h ∈ tables_1 → va_Nw (.methodLinkNest a i x h) U) ∧ (∀ C T : String, Cond.castable C T ∈ tables_1 → va_Nw (.castable C T) U) ∧ (∀ x : MethodName, Cond.declares x ∈ tables_1 → va_Nw (.declares x) U) ∧ va_Nc "java/lang/IllegalArgumentException" "java/util/NoSuchElementException" U
def zslen : List Nat := [27, 33, 61, 37, 31]
def zsbyt : List (List Int32) := [[97, 32, 110, 117, 109, 98, 101, 114, 32, 111, 117, 116, 115, 105, 100, 101, 32, 105, 116, 115, 32, 98, 111, 117, 110, 100, 115], [99, 101, 108, 108, 32, 108, 105, 103, 104, 116, 32, 100, 111, 110, 107, 101, 121, 32, 115, 104, 105, 112, 32, 100, 111, 111, 114, 32, 115, 105, 103, 104, 116], [115, 101, 101, 110, 32, 100, 97, 114, 107, 32, 109, 105, 110, 117, 116, 101, 32, 99, 101, 108, 108, 32, 116, 114, 117, 115, 116, 32, 100, 114, 97, 117, 103, 104, 116, 32, 99, 114, 101, 119, 32, 110, 105, 103, 104, 116, 32, 102, 111, 103, 32, 108, 101, 97, 115, 116, 32, 109, 111, 115, 116], [100, 111, 119, 115, 101, 32, 108, 105, 103, 104, 116, 32, 108, 101, 97, 100, 32, 112, 97, 115, 115, 32, 102, 111, 103, 32, 110, 105, 103, 104, 116, 32, 97, 103, 97, 105, 110], [110, 111, 32, 115, 117, 99, 104, 32, 111, 110, 101, 32, 115, 116, 97, 110, 100, 115, 32, 111, 110, 32, 116, 104, 101, 32, 99, 111, 97, 115, 116]]
/-- what the launch gives beside the world: nest mates' links, the five texts, String's flag, Throwable's two statics -/
def zX (G : Gz) (A : Nat → Prop) (U : State) (H : Heap) : Prop :=
  zNW U ∧ vk_S 5 zslen zsbyt G.2.2.2.2.1 G.2.2.2.2.2 A U H ∧
  (vk_R "DonkeyLight" 397 "a number outside its bounds" (G.2.2.2.2.1 0) U ∧ vk_R "DonkeyLight$Coast" 78 "cell light donkey ship door sight" (G.2.2.2.2.1 1) U ∧ vk_R "DonkeyLight$Law" 112 "seen dark minute cell trust draught crew night fog least most" (G.2.2.2.2.1 2) U ∧ vk_R "DonkeyLight$Work" 63 "dowse light lead pass fog night again" (G.2.2.2.2.1 3) U ∧ vk_R "DonkeyLight" 390 "no such one stands on the coast" (G.2.2.2.2.1 4) U) ∧
  va_Z "java/lang/String" "COMPACT_STRINGS" "Z" (.int 1) A U H ∧
  vx_Zq Bundle.tN "UNASSIGNED_STACK" Bundle.steD A U H ∧ vx_Zq Bundle.tN "SUPPRESSED_SENTINEL" Bundle.listD A U H ∧ va_Zq "jdk/internal/util/Preconditions" "SIOOBE_FORMATTER" "Ljava/util/function/BiFunction;" A U H
theorem zNW.warm {s U : State} (hW : s.WarmedH U.vm) (h : zNW s) : zNW U := ⟨fun a i x y hm => va_Nw.warmM hW (h.1 a i x y hm), fun C T hm => va_Nw.warmC hW (h.2.1 C T hm), fun x hm => va_Nw.warmD hW (h.2.2.1 x hm), va_Nc.moved hW.alike h.2.2.2⟩
theorem zNW.same {s U : State} (hv : s.vm = U.vm) (h : zNW s) : zNW U := ⟨fun a i x y hm => va_Nw.same rfl hv (h.1 a i x y hm), fun C T hm => va_Nw.same rfl hv (h.2.1 C T hm), fun x hm => va_Nw.same rfl hv (h.2.2.1 x hm), va_Nc.moved (by rw [hv]; exact Vm.Alike.refl _) h.2.2.2⟩
theorem zX.warm {G : Gz} {A : Nat → Prop} {s U : State} {H : Heap} (hW : s.WarmedH U.vm) (h : zX G A s H) : zX G A U H := by
  obtain ⟨h1, h2, ⟨r0, r1, r2, r3, r4⟩, h4, h5, h6, h7⟩ := h
  exact ⟨h1.warm hW, h2.moved hW.alike, ⟨r0.warm hW, r1.warm hW, r2.warm hW, r3.warm hW, r4.warm hW⟩, va_Z.moved hW.alike h4, vx_Zq.moved hW.alike h5, vx_Zq.moved hW.alike h6, va_Zq.moved hW.alike h7⟩
theorem zX.same {G : Gz} {A : Nat → Prop} {s U : State} {H : Heap} (hv : s.vm = U.vm) (h : zX G A s H) : zX G A U H := by
  obtain ⟨h1, h2, ⟨r0, r1, r2, r3, r4⟩, h4, h5, h6, h7⟩ := h
  have ha : s.vm.Alike U.vm := by rw [hv]; exact Vm.Alike.refl _
  exact ⟨h1.same hv, h2.moved ha, ⟨r0.same hv.symm, r1.same hv.symm, r2.same hv.symm, r3.same hv.symm, r4.same hv.symm⟩, va_Z.moved ha h4, vx_Zq.moved ha h5, vx_Zq.moved ha h6, va_Zq.moved ha h7⟩
theorem zX.kept {G : Gz} {A : Nat → Prop} {s : State} {H H1 : Heap} (h : zX G A s H) (hq : ∀ a : Nat, a < H.size → ¬ A a → H1[a]? = H[a]?) : zX G A s H1 := by
  obtain ⟨h1, h2, h3, h4, h5, h6, h7⟩ := h
  exact ⟨h1, h2.kept hq, h3, va_Z.kept h4 hq, vx_Zq.kept h5 hq, vx_Zq.kept h6 hq, va_Zq.kept h7 hq⟩
theorem zX.narrow {G : Gz} {A B : Nat → Prop} {s : State} {H : Heap} (h : zX G A s H) (hq : ∀ q, B q → A q) : zX G B s H := by
  obtain ⟨h1, h2, h3, h4, h5, h6, h7⟩ := h
  exact ⟨h1, h2.narrow hq, h3, va_Z.narrow h4 hq, vx_Zq.narrow h5 hq, vx_Zq.narrow h6 hq, va_Zq.narrow h7 hq⟩
/-- the room of depth k -/
def rmK (k : Nat) : Room := { frames := k, cells := 0, slots := 0, locals := 60 * k }
def Rm (R : Room) (k : Nat) : Prop := k ≤ R.frames ∧ 60 * k ≤ R.locals
/-- the room of depth k of a method that throws: one object more -/
def rmX (k : Nat) : Room := { frames := k, cells := 1, slots := 6, locals := 60 * k }
/-- where a method begins -/
def zB (G : Gz) (σ : St) (sz : Nat) (U : State) : Prop := U.heap.size = sz ∧ va_P G.2.1 zcl (zw G σ) U.heap ∧ va_K G.2.1 zcl (ztys G) U ∧ zX G (zA G sz) U U.heap
def zQi (G : Gz) (r : Int32) (σ : St) (sz : Nat) : Array Value → State → Outcome → State → Prop := va_Qi (fun (r' : Int32) (u : St) => r' = r ∧ u = σ) (fun u t => va_P G.2.1 zcl (zw G u) t.heap) (zA G sz)
def zQl (G : Gz) (r : Int64) (σ : St) (sz : Nat) : Array Value → State → Outcome → State → Prop := va_Ql (fun (r' : Int64) (u : St) => r' = r ∧ u = σ) (fun u t => va_P G.2.1 zcl (zw G u) t.heap) (zA G sz)
def zQv (G : Gz) (σ : St) (sz : Nat) : Array Value → State → Outcome → State → Prop := va_Qv (fun (u : St) => u = σ) (fun u t => va_P G.2.1 zcl (zw G u) t.heap) (zA G sz)
/-- THE CONTRACTS: y of k levels, at these arguments and in the state σ, answers r and leaves σ' -/
def MI (l : Launch) (G : Gz) (y : MethodName) (b : ByteArray) (nL : Nat) (ty : FieldType) (k : Nat) (av : List Value) (σ : St) (r : Int32) (σ' : St) : Prop := ∀ sz : Nat, Met l y (.code y b nL (some ty) :: TB) (rmK k) (va_Pc av (zB G σ sz)) (zQi G r σ' sz) 0 0 (zA G sz)
def ML (l : Launch) (G : Gz) (y : MethodName) (b : ByteArray) (nL : Nat) (ty : FieldType) (k : Nat) (av : List Value) (σ : St) (r : Int64) (σ' : St) : Prop := ∀ sz : Nat, Met l y (.code y b nL (some ty) :: TB) (rmK k) (va_Pc av (zB G σ sz)) (zQl G r σ' sz) 0 0 (zA G sz)
def MV (l : Launch) (G : Gz) (y : MethodName) (b : ByteArray) (nL : Nat) (k : Nat) (av : List Value) (σ : St) (σ' : St) : Prop := ∀ sz : Nat, Met l y (.code y b nL none :: TB) (rmK k) (va_Pc av (zB G σ sz)) (zQv G σ' sz) 0 0 (zA G sz)
theorem zB_blind {G : Gz} {σ : St} {sz : Nat} {av : List Value} : FrameBlind (va_Pc av (zB G σ sz)) := fun a U g mk h => ⟨h.1, h.2.1, h.2.2.1, va_K.moved (u := U) (U := U.calling g mk a) (Vm.Alike.refl U.vm) h.2.2.2.1, zX.same (s := U) (U := U.calling g mk a) rfl h.2.2.2.2⟩
/-- the machine's side of a method's run -/
abbrev Cx : Type := Program × Env × Room × State × MethodId × Array Value × List Frame × Method × Code × (State → Prop)
abbrev xp (X : Cx) : Program := X.1
abbrev xe (X : Cx) : Env := X.2.1
abbrev xR (X : Cx) : Room := X.2.2.1
abbrev xs (X : Cx) : State := X.2.2.2.1
abbrev xm (X : Cx) : MethodId := X.2.2.2.2.1
abbrev xa (X : Cx) : Array Value := X.2.2.2.2.2.1
abbrev xb (X : Cx) : List Frame := X.2.2.2.2.2.2.1
abbrev xh (X : Cx) : Method := X.2.2.2.2.2.2.2.1
abbrev xc (X : Cx) : Code := X.2.2.2.2.2.2.2.2.1
abbrev xQ (X : Cx) : State → Prop := X.2.2.2.2.2.2.2.2.2
def zW (G : Gz) (X : Cx) (σ : St) (H : Heap) (locs : List Loc) : Prop := va_P G.2.1 zcl (zw G σ) H ∧ va_S (zA G (xs X).heap.size) (xs X).heap H locs
/-- THE JUDGEMENT: the machine, at pc with these locals and this stack in the state σ, comes to its end -/
def J (l : Launch) (G : Gz) (X : Cx) (nL : Nat) (σ : St) (pc : Nat) (ls : List (Nat × Value)) (st : List Value) : Prop :=
  ∀ (H : Heap) (locs : List Loc) (la : Array Slot), zW G X σ H locs → lv_has la nL ls → W (xp X) l (xe X) (xR X) (xs X) (xm X) (xa X) (xb X) (xh X) (xc X) H locs 0 0 (xQ X) (F0 (xm X) pc la st)
def Gd (G : Gz) (X : Cx) (b : ByteArray) (nL : Nat) (own : String) (k : Nat) : Prop :=
  (xp X).tables.exec = Jvm.exec ∧ (xc X).code = b ∧ (xc X).maxLocals = nL ∧ (xs X).vm.findClass own = some (xm X).cls ∧ (∀ w ∈ TB, w.before (xa X) (xs X) = true) ∧ (xh X).locks = false ∧ Rm (xR X) k ∧
  va_K G.2.1 zcl (ztys G) (xs X) ∧ zI G ∧ zX G (zA G (xs X).heap.size) (xs X) (xs X).heap
def EI (G : Gz) (X : Cx) (ty : FieldType) (r : Int32) (σ : St) : Prop := (xh X).sig.returnType = some ty ∧ xQ X = MQ (xb X) (zQi G r σ (xs X).heap.size) (xa X) (xs X) 0 0 (zA G (xs X).heap.size)
def EL (G : Gz) (X : Cx) (ty : FieldType) (r : Int64) (σ : St) : Prop := (xh X).sig.returnType = some ty ∧ xQ X = MQ (xb X) (zQl G r σ (xs X).heap.size) (xa X) (xs X) 0 0 (zA G (xs X).heap.size)
def EV (G : Gz) (X : Cx) (σ : St) : Prop := (xh X).sig.returnType = none ∧ xQ X = MQ (xb X) (zQv G σ (xs X).heap.size) (xa X) (xs X) 0 0 (zA G (xs X).heap.size)
section ENT
variable {l : Launch} {G : Gz} {y : MethodName} {b : ByteArray} {nL k : Nat} {ty : FieldType} {av : List Value} {σ σ' : St}
theorem MI.of {r : Int32} (hG : zI G) (hy : plainName y.cls = true) (hn : (lg_sl av).length ≤ nL) (body : ∀ X : Cx, Gd G X b nL y.cls k → EI G X ty r σ' → J l G X nL σ 0 (lv_args 0 av) []) : MI l G y b nL ty k av σ r σ' := by
  intro sz
  refine Met.ofW (cc := b) (maxL := nL) (ret := some ty) hy rfl ?_
  intro p e s m args below meth c s₁ B hml hv
  obtain ⟨rfl, rfl, hP, hK, hX⟩ := hv
  have hts := atoms_spec (ws := .code y b nL (some ty) :: TB) B.pre
  have h := body ⟨p, e, rmK k, s, m, av.toArray, below, meth, c, MQ below (zQi G r σ' s.heap.size) av.toArray s 0 0 (zA G s.heap.size)⟩ ⟨B.exec, B.bytes, hml, findClass_of_methodNamed B.named, fun w hw => hts w (List.mem_cons_of_mem _ hw), B.notSynchronized, ⟨Nat.le_refl _, Nat.le_refl _⟩, hK, hG, hX⟩ ⟨B.returns, rfl⟩ s.heap [] _ ⟨hP, va_S.rf⟩ (lv_entry av hn)
  rw [lg_entry_eq]
  exact h
theorem ML.of {r : Int64} (hG : zI G) (hy : plainName y.cls = true) (hn : (lg_sl av).length ≤ nL) (body : ∀ X : Cx, Gd G X b nL y.cls k → EL G X ty r σ' → J l G X nL σ 0 (lv_args 0 av) []) : ML l G y b nL ty k av σ r σ' := by
  intro sz
  refine Met.ofW (cc := b) (maxL := nL) (ret := some ty) hy rfl ?_
  intro p e s m args below meth c s₁ B hml hv
  obtain ⟨rfl, rfl, hP, hK, hX⟩ := hv
  have hts := atoms_spec (ws := .code y b nL (some ty) :: TB) B.pre
  have h := body ⟨p, e, rmK k, s, m, av.toArray, below, meth, c, MQ below (zQl G r σ' s.heap.size) av.toArray s 0 0 (zA G s.heap.size)⟩ ⟨B.exec, B.bytes, hml, findClass_of_methodNamed B.named, fun w hw => hts w (List.mem_cons_of_mem _ hw), B.notSynchronized, ⟨Nat.le_refl _, Nat.le_refl _⟩, hK, hG, hX⟩ ⟨B.returns, rfl⟩ s.heap [] _ ⟨hP, va_S.rf⟩ (lv_entry av hn)
  rw [lg_entry_eq]
  exact h
theorem MV.of (hG : zI G) (hy : plainName y.cls = true) (hn : (lg_sl av).length ≤ nL) (body : ∀ X : Cx, Gd G X b nL y.cls k → EV G X σ' → J l G X nL σ 0 (lv_args 0 av) []) : MV l G y b nL k av σ σ' := by
  intro sz
  refine Met.ofW (cc := b) (maxL := nL) (ret := none) hy rfl ?_
  intro p e s m args below meth c s₁ B hml hv
  obtain ⟨rfl, rfl, hP, hK, hX⟩ := hv
  have hts := atoms_spec (ws := .code y b nL none :: TB) B.pre
  have h := body ⟨p, e, rmK k, s, m, av.toArray, below, meth, c, MQ below (zQv G σ' s.heap.size) av.toArray s 0 0 (zA G s.heap.size)⟩ ⟨B.exec, B.bytes, hml, findClass_of_methodNamed B.named, fun w hw => hts w (List.mem_cons_of_mem _ hw), B.notSynchronized, ⟨Nat.le_refl _, Nat.le_refl _⟩, hK, hG, hX⟩ ⟨B.returns, rfl⟩ s.heap [] _ ⟨hP, va_S.rf⟩ (lv_entry av hn)
  rw [lg_entry_eq]
  exact h
end ENT
section ROWS
variable {l : Launch} {G : Gz} {X : Cx} {b : ByteArray} {nL k pc : Nat} {own : String} {σ σ' : St} {ls ls' : List (Nat × Value)} {st : List Value}
theorem J.at {pc' : Nat} (h : pc = pc') (K : J l G X nL σ pc' ls st) : J l G X nL σ pc ls st := h ▸ K
theorem J.lsub (ks : List Nat) (h : lv_pick ls ks = ls') (K : J l G X nL σ pc ls' st) : J l G X nL σ pc ls st := fun H locs la hz hl => K H locs la hz (lv_sub hl ks h)
theorem zAs {s : State} : ∀ q : Nat, s.heap.size ≤ q → zA G s.heap.size q := fun _ h => Or.inr h
theorem j_iret (hx : Gd G X b nL own k) {ty : FieldType} {r v : Int32} (hq : EI G X ty r σ') (hn : narrow ty (.int v) = .int v) (d : decode b pc = .ok (.ireturn, 1)) (hr : v = r) (hs : σ = σ') : J l G X nL σ pc ls [.int v] := by
  intro H locs la hz hl
  subst hr; subst hs
  rw [hq.2]
  exact W.zret (v := v) hx.1 hx.2.1 hq.1 hn (fun t ht hW => ⟨⟨v, σ, rfl, ⟨rfl, rfl⟩, by show va_P G.2.1 zcl (zw G σ) t.heap; rw [ht]; exact hz.1⟩, hz.2.F ht⟩) hz.2.2.2 d hx.2.2.2.2.2.1
theorem j_lret (hx : Gd G X b nL own k) {r v : Int64} (hq : EL G X .long r σ') (d : decode b pc = .ok (.lreturn, 1)) (hr : v = r) (hs : σ = σ') : J l G X nL σ pc ls [.long v] := by
  intro H locs la hz hl
  subst hr; subst hs
  rw [hq.2]
  exact W.lret (v := v) hx.1 hx.2.1 hq.1 (fun t ht hW => ⟨⟨v, σ, rfl, ⟨rfl, rfl⟩, by show va_P G.2.1 zcl (zw G σ) t.heap; rw [ht]; exact hz.1⟩, hz.2.F ht⟩) hz.2.2.2 d hx.2.2.2.2.2.1
theorem j_vret (hx : Gd G X b nL own k) (hq : EV G X σ') (d : decode b pc = .ok (.return_, 1)) (hs : σ = σ') : J l G X nL σ pc ls [] := by
  intro H locs la hz hl
  subst hs
  rw [hq.2]
  exact W.vret hx.1 hx.2.1 hq.1 (fun t ht hW => ⟨⟨σ, rfl, rfl, by show va_P G.2.1 zcl (zw G σ) t.heap; rw [ht]; exact hz.1⟩, hz.2.F ht⟩) hz.2.2.2 d hx.2.2.2.2.2.1
/-- what the tables say of a class -/
def cOK (ci : Nat) (C : String) (T : u_T) (N : Nat) : Prop := zcl[ci]? = some (C, T, N) ∧ (∀ w ∈ u_ws C T N, w ∈ TB) ∧ (∃ ty0 : Nat → FieldType, ∀ k, k < N → parseFieldDescriptor (T k).2.2.1 = some (ty0 k)) ∧ (∀ a, a < N → ∀ b, b < N → a ≠ b → (T a).2.1 ≠ (T b).2.1)
theorem j_get (hx : Gd G X b nL own k) {ci index : Nat} {C : String} {T : u_T} {N o : Nat} {fs : List Value} {v : Value} (hC : cOK ci C T N) (f : Nat) (hf : f < N) (t : Cond.fieldLink own index (T f).1 (T f).2.1 (T f).2.2.1 ∈ TB) (ho : o < 610) (he : zs G o (σ o) = .inr (ci, fs)) (hv : fs[f]? = some v)
    (d : decode b pc = .ok (.getfield index, 3)) (K : J l G X nL σ (pc + 3) ls (v :: st)) : J l G X nL σ pc ls (.ref (G.1 o) :: st) := by
  intro H locs la hz hl
  obtain ⟨h1, h2, h3, h4, h5, h6, h7, h8, h9, h10⟩ := hx
  exact va_get (C := C) (T := T) (N := N) (ci := ci) h1 h2 h5 hC.2.1 h4 h8 hz.1 o (zw_get' ho he) hC.1 f hf (h5 _ t) (fun _ h => h) hv d (K H locs la hz hl)
theorem j_put (hx : Gd G X b nL own k) {ci index : Nat} {C : String} {T : u_T} {N o : Nat} {fs : List Value} {v : Int32} (hC : cOK ci C T N) (f : Nat) (hf : f < N) (t : Cond.fieldLink own index (T f).1 (T f).2.1 (T f).2.2.1 ∈ TB) (ho : o < 610) (he : zs G o (σ o) = .inr (ci, fs)) (hi : (T f).2.2 = ("I", false)) (hl9 : f < fs.length)
    (hu : zs G o (upd (σ o) f v) = .inr (ci, fs.set f (.int v))) (d : decode b pc = .ok (.putfield index, 3)) (K : J l G X nL (up σ o f v) (pc + 3) ls st) : J l G X nL σ pc ls (.int v :: .ref (G.1 o) :: st) := by
  intro H locs la hz hl
  obtain ⟨h1, h2, h3, h4, h5, h6, h7, h8, h9, h10⟩ := hx
  obtain ⟨ty0, hty⟩ := hC.2.2.1
  refine va_put (C := C) (T := T) (N := N) (ci := ci) (v := .int v) (ty := .int) h1 h2 h5 hC.2.1 ty0 hty hC.2.2.2 h4 h8 hz.1 (zw_D h9 σ _) hz.2 o (zw_get' ho he) hC.1 f hf (h5 _ t) (fun _ h => h) (by rw [hi]) (by rw [hi]; decide +kernel) rfl rfl hl9 d (fun H1 locs1 hP hD hS => ?_)
  rw [zw_set hu] at hP
  exact K H1 locs1 la ⟨hP, hS⟩ hl
theorem j_iald (hx : Gd G X b nL own k) {o n : Nat} {i : Int32} (ho : o < 610) (he : zs G o (σ o) = zarr G n (σ o)) (hin : vp_in i n) (d : decode b pc = .ok (.iaload, 1)) (K : J l G X nL σ (pc + 1) ls (.int (σ o i.toNatClampNeg) :: st)) : J l G X nL σ pc ls (.int i :: .ref (G.1 o) :: st) := by
  intro H locs la hz hl
  obtain ⟨h1, h2, h3, h4, h5, h6, h7, h8, h9, h10⟩ := hx
  exact va_iald h1 h2 h8 hz.1 o 0 (zw_get' ho he) rfl hin d (K H locs la hz hl)
theorem j_iast (hx : Gd G X b nL own k) {o n : Nat} {i v : Int32} (ho : o < 610) (he : ∀ f, zs G o f = zarr G n f) (hin : vp_in i n) (d : decode b pc = .ok (.iastore, 1)) (K : J l G X nL (up σ o i.toNatClampNeg v) (pc + 1) ls st) : J l G X nL σ pc ls (.int v :: .int i :: .ref (G.1 o) :: st) := by
  intro H locs la hz hl
  obtain ⟨h1, h2, h3, h4, h5, h6, h7, h8, h9, h10⟩ := hx
  refine va_iast h1 h2 h8 hz.1 (zw_D h9 σ _) hz.2 o 0 (zw_get' ho (he _)) rfl hin d (fun H1 locs1 hP hD hS => ?_)
  rw [zw_set (he _)] at hP
  exact K H1 locs1 la ⟨hP, hS⟩ hl
theorem j_alen (hx : Gd G X b nL own k) {o n : Nat} {v : Int32} (ho : o < 610) (he : zs G o (σ o) = zarr G n (σ o)) (hv : Int32.ofNat n = v) (d : decode b pc = .ok (.arraylength, 1)) (K : J l G X nL σ (pc + 1) ls (.int v :: st)) : J l G X nL σ pc ls (.ref (G.1 o) :: st) := by
  intro H locs la hz hl
  obtain ⟨h1, h2, h3, h4, h5, h6, h7, h8, h9, h10⟩ := hx
  exact va_alen h1 h2 h8 hz.1 o 0 (zw_get' ho he) rfl hv d (K H locs la hz hl)
theorem j_alens (hx : Gd G X b nL own k) {o n q : Nat} {v : Int32} (ho : o < 610) (he : zs G o (σ o) = zars G n q) (hv : Int32.ofNat n = v) (d : decode b pc = .ok (.arraylength, 1)) (K : J l G X nL σ (pc + 1) ls (.int v :: st)) : J l G X nL σ pc ls (.ref (G.1 o) :: st) := by
  intro H locs la hz hl
  obtain ⟨h1, h2, h3, h4, h5, h6, h7, h8, h9, h10⟩ := hx
  exact va_alen h1 h2 h8 hz.1 o 1 (zw_get' ho he) rfl hv d (K H locs la hz hl)
theorem j_aald (hx : Gd G X b nL own k) {o n q : Nat} {i : Int32} (ho : o < 610) (he : zs G o (σ o) = zars G n q) (hin : vp_in i n) (d : decode b pc = .ok (.aaload, 1)) (K : J l G X nL σ (pc + 1) ls (.ref (G.1 (q + i.toNatClampNeg)) :: st)) : J l G X nL σ pc ls (.int i :: .ref (G.1 o) :: st) := by
  intro H locs la hz hl
  obtain ⟨h1, h2, h3, h4, h5, h6, h7, h8, h9, h10⟩ := hx
  have hlt : i.toNatClampNeg < n := Nat.not_le.mp fun q => hin (Or.inr q)
  exact W.aald (v := va_rf (some (G.1 (q + i.toNatClampNeg)))) (ty := .array .int) h1 h2 (hz.1 o _ (zw_get' ho he)) ((h8.2 1 _ rfl).1 n (fun j => va_rf (some (G.1 (q + j))))) rfl (fun q => by cases q) (by show ¬ (i < 0 ∨ (arrV _ _ _).slots.size ≤ _); rw [arrV_size]; exact hin) (by show (arrV _ _ _).slots[_]? = _; rw [arrV_read _ _ hlt]) rfl rfl d (K H locs la hz hl)
/-- what the tables say of a method; n: its parameters but the receiver -/
def mOK (y : MethodName) (b' : ByteArray) (nL' : Nat) (ret : Option FieldType) (n : Nat) : Prop := Cond.code y b' nL' ret ∈ TB ∧ Cond.initialized y.cls ∈ TB ∧ (y.cls ≠ "java/lang/invoke/MethodHandle" ∧ y.cls ≠ "java/lang/invoke/VarHandle" ∧ (parseMethodDescriptor y.desc).map (fun d => d.parameters.length) = some n) ∧ nL' ≤ 41
def mV (y : MethodName) : Prop := Cond.instanceMethod y ∈ TB ∧ Cond.selects y.cls y y ∈ TB
theorem good1 {w : Cond} (h : w ∈ TB) : w ∈ TB ∧ ((w.onTables && w.keeps) = true ∨ ∃ ty, w = .arrayClass ty) := ⟨h, good_of_word (TBg h)⟩
theorem goodTB {y : MethodName} {b' : ByteArray} {nL' : Nat} {ret : Option FieldType} (h : Cond.code y b' nL' ret ∈ TB) : GoodIn TB (.code y b' nL' ret :: TB) := fun w hw => (List.mem_cons.mp hw).elim (fun e => e ▸ good1 h) good1
theorem zroom {R : Room} {k k' nL' : Nat} (hR : Rm R k) (h : k' < k) (h2 : nL' ≤ 41) : (rmK k').frames + 1 ≤ R.frames ∧ 8 + (nL' + 11) + (rmK k').locals ≤ R.locals := by
  obtain ⟨h3, h4⟩ := hR
  simp only [rmK]
  omega
theorem zBof {H : Heap} {locs : List Loc} (hx : Gd G X b nL own k) (hz : zW G X σ H locs) {U : State} (hU : U.heap = H) (hW : (xs X).WarmedH U.vm) : zB G σ H.size U := by
  obtain ⟨h1, h2, h3, h4, h5, h6, h7, h8, h9, h10⟩ := hx
  refine ⟨by rw [hU], by rw [hU]; exact hz.1, va_K.moved hW.alike h8, ?_⟩
  rw [hU]
  exact ((h10.kept hz.2.2.1).narrow (zA_mono hz.2.1)).warm hW
theorem zcw {y : MethodName} {b' : ByteArray} {nL' n k' index : Nat} {ret : Option FieldType} (hx : Gd G X b nL own k) (m1 : mOK y b' nL' ret n) (m2 : mV y) (t : Cond.methodLink own index y ∈ TB) (hk : k' < k) : CallW (xR X) (xs X) (xa X) own y.cls index y b' nL' ret (.code y b' nL' ret :: TB) (rmK k') 0 0 n := by
  obtain ⟨h1, h2, h3, h4, h5, h6, h7, h8, h9, h10⟩ := hx
  exact ⟨callB_of n h5 (goodTB m1.1) rfl rfl rfl (h5 _ m1.2.1) (h5 _ t) m1.2.2.1 (zroom h7 hk m1.2.2.2), h5 _ m2.1, h5 _ m2.2⟩
theorem zcs {y : MethodName} {b' : ByteArray} {nL' n k' index : Nat} {ret : Option FieldType} (hx : Gd G X b nL own k) (m1 : mOK y b' nL' ret n) (m2 : Cond.static y ∈ TB) (t : Cond.methodLink own index y ∈ TB) (hk : k' < k) : CallB (xR X) (xs X) (xa X) own index y b' nL' ret (.code y b' nL' ret :: TB) (rmK k') 0 0 n ∧ (Cond.static y).before (xa X) (xs X) = true := by
  obtain ⟨h1, h2, h3, h4, h5, h6, h7, h8, h9, h10⟩ := hx
  exact ⟨callB_of n h5 (goodTB m1.1) rfl rfl rfl (h5 _ m1.2.1) (h5 _ t) m1.2.2.1 (zroom h7 hk m1.2.2.2), h5 _ m2⟩
theorem zcn {y : MethodName} {b' : ByteArray} {nL' n k' index : Nat} {ret : Option FieldType} {host : String} (hx : Gd G X b nL own k) (m1 : mOK y b' nL' ret n) (m2 : Cond.static y ∈ TB) (t : Cond.methodLinkNest own index y host ∈ tables_1) (hk : k' < k) : va_CN (xR X) (xs X) (xa X) own index y host b' nL' ret (.code y b' nL' ret :: TB) (rmK k') 0 0 n ∧ (Cond.static y).before (xa X) (xs X) = true ∧ True := by
  obtain ⟨h1, h2, h3, h4, h5, h6, h7, h8, h9, h10⟩ := hx
  exact ⟨va_cnB n h5 (goodTB m1.1) rfl rfl rfl (h10.1.1 _ _ _ _ t) (h5 _ m1.2.1) m1.2.2.1 (zroom h7 hk m1.2.2.2), h5 _ m2, trivial⟩
theorem zfix (hx : Gd G X b nL own k) : CallFix (xp X) (xm X) (xc X) b nL (xs X) (xa X) TB own := ⟨hx.1, hx.2.1, hx.2.2.1, hx.2.2.2.1, hx.2.2.2.2.1⟩
theorem zrun {H : Heap} {locs : List Loc} {y : MethodName} {b' : ByteArray} {nL' n k' index ci N o pc : Nat} {ret : Option FieldType} {T : u_T} {fs As st rest : List Value} {la : Array Slot} {Qc : Array Value → State → Outcome → State → Prop} (hx : Gd G X b nL own k) (hz : zW G X σ H locs) (hla : la.size = nL)
    (hM : Met l y (.code y b' nL' ret :: TB) (rmK k') (va_Pc (.ref (G.1 o) :: As) (zB G σ H.size)) Qc 0 0 (zA G H.size)) (m1 : mOK y b' nL' ret n) (m2 : mV y) (t : Cond.methodLink own index y ∈ TB) (hk : k' < k) (hn : As.length = n)
    (ho : o < 610) (he : zs G o (σ o) = .inr (ci, fs)) (hc : zcl[ci]? = some (y.cls, T, N)) (hst : st = As.reverse ++ .ref (G.1 o) :: rest) (hcat : (rest.map fun v => v.category).sum ≤ 8) (d : decode b pc = .ok (.invokevirtual index, 3)) :
    va_Run (xp X) l (xe X) (xR X) (xs X) (xm X) (xa X) (xb X) (xh X) (xc X) H locs 0 0 0 0 (F0 (xm X) pc la st) rest (Qc (Value.ref (G.1 o) :: As).toArray) (zA G H.size) := by
  have hp : PreV (xs X) H y.cls (G.1 o) (va_Pc (.ref (G.1 o) :: As) (zB G σ H.size)) As := ⟨zB_blind, va_recv hx.2.2.2.2.2.2.2.1 hz.1 hc (zw_get' ho he), fun U hU hW => ⟨rfl, zBof hx hz hU hW⟩⟩
  exact va_runV (zfix hx) hM (zcw hx m1 m2 t hk) hp rfl hn hla hst (lv_room hcat) d ⟨Nat.zero_le _, Nat.zero_le _⟩
theorem zrunS {H : Heap} {locs : List Loc} {y : MethodName} {b' : ByteArray} {nL' n k' index pc : Nat} {ret : Option FieldType} {As st rest : List Value} {la : Array Slot} {Qc : Array Value → State → Outcome → State → Prop} (hx : Gd G X b nL own k) (hz : zW G X σ H locs) (hla : la.size = nL)
    (hM : Met l y (.code y b' nL' ret :: TB) (rmK k') (va_Pc As (zB G σ H.size)) Qc 0 0 (zA G H.size)) (m1 : mOK y b' nL' ret n) (m2 : Cond.static y ∈ TB) (t : Cond.methodLink own index y ∈ TB) (hk : k' < k) (hn : As.length = n)
    (hst : st = As.reverse ++ rest) (hcat : (rest.map fun v => v.category).sum ≤ 8) (d : decode b pc = .ok (.invokestatic index, 3)) :
    va_Run (xp X) l (xe X) (xR X) (xs X) (xm X) (xa X) (xb X) (xh X) (xc X) H locs 0 0 0 0 (F0 (xm X) pc la st) rest (Qc As.toArray) (zA G H.size) := by
  have hp : PreS (xs X) H (va_Pc As (zB G σ H.size)) As := ⟨zB_blind, fun U hU hW => ⟨rfl, zBof hx hz hU hW⟩⟩
  exact va_runS (zfix hx) hM (zcs hx m1 m2 t hk) hp rfl hn hla hst (lv_room hcat) d ⟨Nat.zero_le _, Nat.zero_le _⟩
theorem zrunN {H : Heap} {locs : List Loc} {y : MethodName} {b' : ByteArray} {nL' n k' index pc : Nat} {ret : Option FieldType} {host : String} {As st rest : List Value} {la : Array Slot} {Qc : Array Value → State → Outcome → State → Prop} (hx : Gd G X b nL own k) (hz : zW G X σ H locs) (hla : la.size = nL)
    (hM : Met l y (.code y b' nL' ret :: TB) (rmK k') (va_Pc As (zB G σ H.size)) Qc 0 0 (zA G H.size)) (m1 : mOK y b' nL' ret n) (m2 : Cond.static y ∈ TB) (t : Cond.methodLinkNest own index y host ∈ tables_1) (hk : k' < k) (hn : As.length = n)
    (hst : st = As.reverse ++ rest) (hcat : (rest.map fun v => v.category).sum ≤ 8) (d : decode b pc = .ok (.invokestatic index, 3)) :
    va_Run (xp X) l (xe X) (xR X) (xs X) (xm X) (xa X) (xb X) (xh X) (xc X) H locs 0 0 0 0 (F0 (xm X) pc la st) rest (Qc As.toArray) (zA G H.size) := by
  have hp : PreS (xs X) H (va_Pc As (zB G σ H.size)) As := ⟨zB_blind, fun U hU hW => ⟨rfl, zBof hx hz hU hW⟩⟩
  exact va_runSN (zfix hx) hM (zcn hx m1 m2 t hk) hp rfl hn hla hst (lv_room hcat) d ⟨Nat.zero_le _, Nat.zero_le _⟩
theorem zafter {s : State} {H : Heap} {locs : List Loc} (hS : va_S (zA G s.heap.size) s.heap H locs) : ∀ q, zA G H.size q → zA G s.heap.size q := zA_mono hS.1
end ROWS
theorem m_math : Cond.initialized "java/lang/Math" ∈ TB := t_4
theorem m_max_s : Cond.static Lib.Math.max.name ∈ TB := t_45
theorem m_max_c : Cond.code Lib.Math.max.name Lib.Math.max.code 2 (some .int) ∈ TB := t_46
theorem m_min_s : Cond.static Lib.Math.min.name ∈ TB := t_468
theorem m_min_c : Cond.code Lib.Math.min.name Lib.Math.min.code 2 (some .int) ∈ TB := t_469
theorem m_abs_s : Cond.static Lib.Math.abs.name ∈ TB := t_461
theorem m_abs_c : Cond.code Lib.Math.abs.name Lib.Math.abs.code 1 (some .int) ∈ TB := t_462
section RULES
variable {l : Launch} {G : Gz} {X : Cx} {b : ByteArray} {nL k pc : Nat} {own : String} {σ σ' : St} {ls ls' : List (Nat × Value)} {st : List Value}
theorem j_iconst (hx : Gd G X b nL own k) {n : Int} {v : Int32} (hdg : decode b pc = .ok (.iconst n, 1)) (hv : Int32.ofInt n = v)     (K : J l G X nL σ (pc + 1) ls (.int v :: st)) : J l G X nL σ pc ls (st) := fun H locs la hz hl => lv_iconst hx.1 hx.2.1 hdg hv (K H locs la hz hl)
theorem j_bipush (hx : Gd G X b nL own k) {n : Int} {v : Int32} (hdg : decode b pc = .ok (.bipush n, 2)) (hv : (Int8.ofInt n).toInt32 = v)     (K : J l G X nL σ (pc + 2) ls (.int v :: st)) : J l G X nL σ pc ls (st) := fun H locs la hz hl => lv_bipush hx.1 hx.2.1 hdg hv (K H locs la hz hl)
theorem j_sipush (hx : Gd G X b nL own k) {n : Int} {v : Int32} (hdg : decode b pc = .ok (.sipush n, 3)) (hv : (Int16.ofInt n).toInt32 = v)     (K : J l G X nL σ (pc + 3) ls (.int v :: st)) : J l G X nL σ pc ls (st) := fun H locs la hz hl => lv_sipush hx.1 hx.2.1 hdg hv (K H locs la hz hl)
theorem j_lconst (hx : Gd G X b nL own k) {n : Fin 2} {v : Int64} (hdg : decode b pc = .ok (.lconst n, 1)) (hv : Int64.ofNat (n : Nat) = v)     (K : J l G X nL σ (pc + 1) ls (.long v :: st)) : J l G X nL σ pc ls (st) := fun H locs la hz hl => lv_lconst hx.1 hx.2.1 hdg hv (K H locs la hz hl)
theorem j_iadd (hx : Gd G X b nL own k) {x y : Int32} (hdg : decode b pc = .ok (.iadd, 1))      (K : J l G X nL σ (pc + 1) ls (.int (x + y) :: st)) : J l G X nL σ pc ls (.int y :: .int x :: st) := fun H locs la hz hl => lv_iadd hx.1 hx.2.1 hdg (K H locs la hz hl)
theorem j_isub (hx : Gd G X b nL own k) {x y : Int32} (hdg : decode b pc = .ok (.isub, 1))      (K : J l G X nL σ (pc + 1) ls (.int (x - y) :: st)) : J l G X nL σ pc ls (.int y :: .int x :: st) := fun H locs la hz hl => lv_isub hx.1 hx.2.1 hdg (K H locs la hz hl)
theorem j_imul (hx : Gd G X b nL own k) {x y : Int32} (hdg : decode b pc = .ok (.imul, 1))      (K : J l G X nL σ (pc + 1) ls (.int (x * y) :: st)) : J l G X nL σ pc ls (.int y :: .int x :: st) := fun H locs la hz hl => lv_imul hx.1 hx.2.1 hdg (K H locs la hz hl)
theorem j_idiv (hx : Gd G X b nL own k) {x y : Int32} (hdg : decode b pc = .ok (.idiv, 1)) (hne : ¬ y = 0)     (K : J l G X nL σ (pc + 1) ls (.int (x / y) :: st)) : J l G X nL σ pc ls (.int y :: .int x :: st) := fun H locs la hz hl => lv_idiv hx.1 hx.2.1 hdg hne (K H locs la hz hl)
theorem j_irem (hx : Gd G X b nL own k) {x y : Int32} (hdg : decode b pc = .ok (.irem, 1)) (hne : ¬ y = 0)     (K : J l G X nL σ (pc + 1) ls (.int (x - x / y * y) :: st)) : J l G X nL σ pc ls (.int y :: .int x :: st) := fun H locs la hz hl => lv_irem hx.1 hx.2.1 hdg hne (K H locs la hz hl)
theorem j_ineg (hx : Gd G X b nL own k) {x : Int32} (hdg : decode b pc = .ok (.ineg, 1))      (K : J l G X nL σ (pc + 1) ls (.int (-x) :: st)) : J l G X nL σ pc ls (.int x :: st) := fun H locs la hz hl => lv_ineg hx.1 hx.2.1 hdg (K H locs la hz hl)
theorem j_ishl (hx : Gd G X b nL own k) {x y : Int32} (hdg : decode b pc = .ok (.ishl, 1))      (K : J l G X nL σ (pc + 1) ls (.int (x <<< (y &&& 31)) :: st)) : J l G X nL σ pc ls (.int y :: .int x :: st) := fun H locs la hz hl => lv_ishl hx.1 hx.2.1 hdg (K H locs la hz hl)
theorem j_ishr (hx : Gd G X b nL own k) {x y : Int32} (hdg : decode b pc = .ok (.ishr, 1))      (K : J l G X nL σ (pc + 1) ls (.int (x >>> (y &&& 31)) :: st)) : J l G X nL σ pc ls (.int y :: .int x :: st) := fun H locs la hz hl => lv_ishr hx.1 hx.2.1 hdg (K H locs la hz hl)
theorem j_iushr (hx : Gd G X b nL own k) {x y v : Int32} (hdg : decode b pc = .ok (.iushr, 1)) (hv : (x.toUInt32 >>> (y.toUInt32 &&& Int32.toUInt32 31)).toInt32 = v)     (K : J l G X nL σ (pc + 1) ls (.int v :: st)) : J l G X nL σ pc ls (.int y :: .int x :: st) := fun H locs la hz hl => lv_iushr hx.1 hx.2.1 hdg hv (K H locs la hz hl)
theorem j_iand (hx : Gd G X b nL own k) {x y : Int32} (hdg : decode b pc = .ok (.iand, 1))      (K : J l G X nL σ (pc + 1) ls (.int (x &&& y) :: st)) : J l G X nL σ pc ls (.int y :: .int x :: st) := fun H locs la hz hl => lv_iand hx.1 hx.2.1 hdg (K H locs la hz hl)
theorem j_ior (hx : Gd G X b nL own k) {x y : Int32} (hdg : decode b pc = .ok (.ior, 1))      (K : J l G X nL σ (pc + 1) ls (.int (x ||| y) :: st)) : J l G X nL σ pc ls (.int y :: .int x :: st) := fun H locs la hz hl => lv_ior hx.1 hx.2.1 hdg (K H locs la hz hl)
theorem j_ixor (hx : Gd G X b nL own k) {x y : Int32} (hdg : decode b pc = .ok (.ixor, 1))      (K : J l G X nL σ (pc + 1) ls (.int (x ^^^ y) :: st)) : J l G X nL σ pc ls (.int y :: .int x :: st) := fun H locs la hz hl => lv_ixor hx.1 hx.2.1 hdg (K H locs la hz hl)
theorem j_i2l (hx : Gd G X b nL own k) {x : Int32} {v : Int64} (hdg : decode b pc = .ok (.i2l, 1)) (hv : x.toInt64 = v)     (K : J l G X nL σ (pc + 1) ls (.long v :: st)) : J l G X nL σ pc ls (.int x :: st) := fun H locs la hz hl => lv_i2l hx.1 hx.2.1 hdg hv (K H locs la hz hl)
theorem j_ladd (hx : Gd G X b nL own k) {x y : Int64} (hdg : decode b pc = .ok (.ladd, 1))      (K : J l G X nL σ (pc + 1) ls (.long (x + y) :: st)) : J l G X nL σ pc ls (.long y :: .long x :: st) := fun H locs la hz hl => lv_ladd hx.1 hx.2.1 hdg (K H locs la hz hl)
theorem j_lmul (hx : Gd G X b nL own k) {x y : Int64} (hdg : decode b pc = .ok (.lmul, 1))      (K : J l G X nL σ (pc + 1) ls (.long (x * y) :: st)) : J l G X nL σ pc ls (.long y :: .long x :: st) := fun H locs la hz hl => lv_lmul hx.1 hx.2.1 hdg (K H locs la hz hl)
theorem j_ldiv (hx : Gd G X b nL own k) {x y : Int64} (hdg : decode b pc = .ok (.ldiv, 1)) (hne : ¬ y = 0)     (K : J l G X nL σ (pc + 1) ls (.long (x / y) :: st)) : J l G X nL σ pc ls (.long y :: .long x :: st) := fun H locs la hz hl => lv_ldiv hx.1 hx.2.1 hdg hne (K H locs la hz hl)
theorem j_lrem (hx : Gd G X b nL own k) {x y : Int64} (hdg : decode b pc = .ok (.lrem, 1)) (hne : ¬ y = 0)     (K : J l G X nL σ (pc + 1) ls (.long (x - x / y * y) :: st)) : J l G X nL σ pc ls (.long y :: .long x :: st) := fun H locs la hz hl => lv_lrem hx.1 hx.2.1 hdg hne (K H locs la hz hl)
theorem j_dup (hx : Gd G X b nL own k) {va : Value} (hdg : decode b pc = .ok (.dup, 1)) (hva : va.category = 1)     (K : J l G X nL σ (pc + 1) ls (va :: va :: st)) : J l G X nL σ pc ls (va :: st) := fun H locs la hz hl => lv_dup hx.1 hx.2.1 hdg hva (K H locs la hz hl)
theorem j_dup2_11 (hx : Gd G X b nL own k) {va vb : Value} (hdg : decode b pc = .ok (.dup2, 1)) (hva : va.category = 1) (hvb : vb.category = 1)     (K : J l G X nL σ (pc + 1) ls (va :: vb :: va :: vb :: st)) : J l G X nL σ pc ls (va :: vb :: st) := fun H locs la hz hl => lv_dup2_11 hx.1 hx.2.1 hdg hva hvb (K H locs la hz hl)
theorem j_pop (hx : Gd G X b nL own k) {va : Value} (hdg : decode b pc = .ok (.pop, 1)) (hva : va.category = 1)     (K : J l G X nL σ (pc + 1) ls (st)) : J l G X nL σ pc ls (va :: st) := fun H locs la hz hl => lv_pop hx.1 hx.2.1 hdg hva (K H locs la hz hl)
theorem j_i2c (hx : Gd G X b nL own k) {x : Int32} {v : Int32} (hdg : decode b pc = .ok (.i2c, 1)) (hv : (x.toUInt32 % 65536).toInt32 = v)     (K : J l G X nL σ (pc + 1) ls (.int v :: st)) : J l G X nL σ pc ls (.int x :: st) := fun H locs la hz hl => lv_i2c hx.1 hx.2.1 hdg hv (K H locs la hz hl)
theorem j_if_eq (hx : Gd G X b nL own k) {x : Int32} {off : Int} {tgt : Nat} (hdg : decode b pc = .ok (.ifCond .eq off, 3)) (ht : (pc : Int) + off = (tgt : Int))     (kt : x = 0 → J l G X nL σ tgt ls st) (kf : ¬ x = 0 → J l G X nL σ (pc + 3) ls st) : J l G X nL σ pc ls (.int x :: st) := fun H locs la hz hl => lv_if_eq hx.1 hx.2.1 hdg ht (fun c9 => kt c9 H locs la hz hl) (fun c9 => kf c9 H locs la hz hl)
theorem j_if_ne (hx : Gd G X b nL own k) {x : Int32} {off : Int} {tgt : Nat} (hdg : decode b pc = .ok (.ifCond .ne off, 3)) (ht : (pc : Int) + off = (tgt : Int))     (kt : ¬ x = 0 → J l G X nL σ tgt ls st) (kf : x = 0 → J l G X nL σ (pc + 3) ls st) : J l G X nL σ pc ls (.int x :: st) := fun H locs la hz hl => lv_if_ne hx.1 hx.2.1 hdg ht (fun c9 => kt c9 H locs la hz hl) (fun c9 => kf c9 H locs la hz hl)
theorem j_if_lt (hx : Gd G X b nL own k) {x : Int32} {off : Int} {tgt : Nat} (hdg : decode b pc = .ok (.ifCond .lt off, 3)) (ht : (pc : Int) + off = (tgt : Int))     (kt : x < 0 → J l G X nL σ tgt ls st) (kf : ¬ x < 0 → J l G X nL σ (pc + 3) ls st) : J l G X nL σ pc ls (.int x :: st) := fun H locs la hz hl => lv_if_lt hx.1 hx.2.1 hdg ht (fun c9 => kt c9 H locs la hz hl) (fun c9 => kf c9 H locs la hz hl)
theorem j_if_ge (hx : Gd G X b nL own k) {x : Int32} {off : Int} {tgt : Nat} (hdg : decode b pc = .ok (.ifCond .ge off, 3)) (ht : (pc : Int) + off = (tgt : Int))     (kt : 0 ≤ x → J l G X nL σ tgt ls st) (kf : ¬ 0 ≤ x → J l G X nL σ (pc + 3) ls st) : J l G X nL σ pc ls (.int x :: st) := fun H locs la hz hl => lv_if_ge hx.1 hx.2.1 hdg ht (fun c9 => kt c9 H locs la hz hl) (fun c9 => kf c9 H locs la hz hl)
theorem j_if_gt (hx : Gd G X b nL own k) {x : Int32} {off : Int} {tgt : Nat} (hdg : decode b pc = .ok (.ifCond .gt off, 3)) (ht : (pc : Int) + off = (tgt : Int))     (kt : 0 < x → J l G X nL σ tgt ls st) (kf : ¬ 0 < x → J l G X nL σ (pc + 3) ls st) : J l G X nL σ pc ls (.int x :: st) := fun H locs la hz hl => lv_if_gt hx.1 hx.2.1 hdg ht (fun c9 => kt c9 H locs la hz hl) (fun c9 => kf c9 H locs la hz hl)
theorem j_if_le (hx : Gd G X b nL own k) {x : Int32} {off : Int} {tgt : Nat} (hdg : decode b pc = .ok (.ifCond .le off, 3)) (ht : (pc : Int) + off = (tgt : Int))     (kt : x ≤ 0 → J l G X nL σ tgt ls st) (kf : ¬ x ≤ 0 → J l G X nL σ (pc + 3) ls st) : J l G X nL σ pc ls (.int x :: st) := fun H locs la hz hl => lv_if_le hx.1 hx.2.1 hdg ht (fun c9 => kt c9 H locs la hz hl) (fun c9 => kf c9 H locs la hz hl)
theorem j_icmp_eq (hx : Gd G X b nL own k) {x y : Int32} {off : Int} {tgt : Nat} (hdg : decode b pc = .ok (.if_icmp .eq off, 3)) (ht : (pc : Int) + off = (tgt : Int))     (kt : x = y → J l G X nL σ tgt ls st) (kf : ¬ x = y → J l G X nL σ (pc + 3) ls st) : J l G X nL σ pc ls (.int y :: .int x :: st) := fun H locs la hz hl => lv_icmp_eq hx.1 hx.2.1 hdg ht (fun c9 => kt c9 H locs la hz hl) (fun c9 => kf c9 H locs la hz hl)
theorem j_icmp_ne (hx : Gd G X b nL own k) {x y : Int32} {off : Int} {tgt : Nat} (hdg : decode b pc = .ok (.if_icmp .ne off, 3)) (ht : (pc : Int) + off = (tgt : Int))     (kt : ¬ x = y → J l G X nL σ tgt ls st) (kf : x = y → J l G X nL σ (pc + 3) ls st) : J l G X nL σ pc ls (.int y :: .int x :: st) := fun H locs la hz hl => lv_icmp_ne hx.1 hx.2.1 hdg ht (fun c9 => kt c9 H locs la hz hl) (fun c9 => kf c9 H locs la hz hl)
theorem j_icmp_lt (hx : Gd G X b nL own k) {x y : Int32} {off : Int} {tgt : Nat} (hdg : decode b pc = .ok (.if_icmp .lt off, 3)) (ht : (pc : Int) + off = (tgt : Int))     (kt : x < y → J l G X nL σ tgt ls st) (kf : ¬ x < y → J l G X nL σ (pc + 3) ls st) : J l G X nL σ pc ls (.int y :: .int x :: st) := fun H locs la hz hl => lv_icmp_lt hx.1 hx.2.1 hdg ht (fun c9 => kt c9 H locs la hz hl) (fun c9 => kf c9 H locs la hz hl)
theorem j_icmp_ge (hx : Gd G X b nL own k) {x y : Int32} {off : Int} {tgt : Nat} (hdg : decode b pc = .ok (.if_icmp .ge off, 3)) (ht : (pc : Int) + off = (tgt : Int))     (kt : y ≤ x → J l G X nL σ tgt ls st) (kf : ¬ y ≤ x → J l G X nL σ (pc + 3) ls st) : J l G X nL σ pc ls (.int y :: .int x :: st) := fun H locs la hz hl => lv_icmp_ge hx.1 hx.2.1 hdg ht (fun c9 => kt c9 H locs la hz hl) (fun c9 => kf c9 H locs la hz hl)
theorem j_icmp_gt (hx : Gd G X b nL own k) {x y : Int32} {off : Int} {tgt : Nat} (hdg : decode b pc = .ok (.if_icmp .gt off, 3)) (ht : (pc : Int) + off = (tgt : Int))     (kt : y < x → J l G X nL σ tgt ls st) (kf : ¬ y < x → J l G X nL σ (pc + 3) ls st) : J l G X nL σ pc ls (.int y :: .int x :: st) := fun H locs la hz hl => lv_icmp_gt hx.1 hx.2.1 hdg ht (fun c9 => kt c9 H locs la hz hl) (fun c9 => kf c9 H locs la hz hl)
theorem j_icmp_le (hx : Gd G X b nL own k) {x y : Int32} {off : Int} {tgt : Nat} (hdg : decode b pc = .ok (.if_icmp .le off, 3)) (ht : (pc : Int) + off = (tgt : Int))     (kt : x ≤ y → J l G X nL σ tgt ls st) (kf : ¬ x ≤ y → J l G X nL σ (pc + 3) ls st) : J l G X nL σ pc ls (.int y :: .int x :: st) := fun H locs la hz hl => lv_icmp_le hx.1 hx.2.1 hdg ht (fun c9 => kt c9 H locs la hz hl) (fun c9 => kf c9 H locs la hz hl)
theorem j_goto (hx : Gd G X b nL own k) {off : Int} {tgt : Nat} (hdg : decode b pc = .ok (.goto off, 3)) (ht : (pc : Int) + off = (tgt : Int)) (K : J l G X nL σ tgt ls st) : J l G X nL σ pc ls st := fun H locs la hz hl => lv_goto hx.1 hx.2.1 hdg ht (K H locs la hz hl)
theorem j_tableIn (hx : Gd G X b nL own k) {dflt lo hi : Int} {offs : Array Int} {len : Nat} {x : Int32} {off : Int} {tgt : Nat} (hdg : decode b pc = .ok (.tableswitch dflt lo hi offs, len)) (h1 : ¬ x.toInt < lo) (h2 : ¬ hi < x.toInt) (ho : offs[(x.toInt - lo).toNat]? = some off) (ht : (pc : Int) + off = (tgt : Int))     (K : J l G X nL σ tgt ls st) : J l G X nL σ pc ls (.int x :: st) := fun H locs la hz hl => lv_tableIn hx.1 hx.2.1 hdg h1 h2 ho ht (K H locs la hz hl)
theorem j_tableOut (hx : Gd G X b nL own k) {dflt lo hi : Int} {offs : Array Int} {len : Nat} {x : Int32} {tgt : Nat} (hdg : decode b pc = .ok (.tableswitch dflt lo hi offs, len)) (h : x.toInt < lo ∨ hi < x.toInt) (ht : (pc : Int) + dflt = (tgt : Int))     (K : J l G X nL σ tgt ls st) : J l G X nL σ pc ls (.int x :: st) := fun H locs la hz hl => lv_tableOut hx.1 hx.2.1 hdg h ht (K H locs la hz hl)
theorem j_iload (hx : Gd G X b nL own k) {i : Nat} {x : Int32} (d : decode b pc = .ok (.iload i, 2)) (z : Nat) (h : ls[z]? = some (i, .int x)) (K : J l G X nL σ (pc + 2) ls (.int x :: st)) : J l G X nL σ pc ls st := fun H locs la hz hl => lv_iload hx.1 hx.2.1 d (lv_at hl z h) (K H locs la hz hl)
theorem j_iload_n (hx : Gd G X b nL own k) {q : Fin 4} {i : Nat} {x : Int32} (d : decode b pc = .ok (.iload_n q, 1)) (hi : (q : Nat) = i) (z : Nat) (h : ls[z]? = some (i, .int x)) (K : J l G X nL σ (pc + 1) ls (.int x :: st)) : J l G X nL σ pc ls st := fun H locs la hz hl => lv_iload_n hx.1 hx.2.1 d hi (lv_at hl z h) (K H locs la hz hl)
theorem j_lload (hx : Gd G X b nL own k) {i : Nat} {x : Int64} (d : decode b pc = .ok (.lload i, 2)) (z : Nat) (h : ls[z]? = some (i, .long x)) (K : J l G X nL σ (pc + 2) ls (.long x :: st)) : J l G X nL σ pc ls st := fun H locs la hz hl => lv_lload hx.1 hx.2.1 d (lv_at hl z h) (K H locs la hz hl)
theorem j_lload_n (hx : Gd G X b nL own k) {q : Fin 4} {i : Nat} {x : Int64} (d : decode b pc = .ok (.lload_n q, 1)) (hi : (q : Nat) = i) (z : Nat) (h : ls[z]? = some (i, .long x)) (K : J l G X nL σ (pc + 1) ls (.long x :: st)) : J l G X nL σ pc ls st := fun H locs la hz hl => lv_lload_n hx.1 hx.2.1 d hi (lv_at hl z h) (K H locs la hz hl)
theorem j_aload (hx : Gd G X b nL own k) {i : Nat} {x : Nat} (d : decode b pc = .ok (.aload i, 2)) (z : Nat) (h : ls[z]? = some (i, .ref x)) (K : J l G X nL σ (pc + 2) ls (.ref x :: st)) : J l G X nL σ pc ls st := fun H locs la hz hl => lv_aload hx.1 hx.2.1 d (lv_at hl z h) (K H locs la hz hl)
theorem j_aload_n (hx : Gd G X b nL own k) {q : Fin 4} {i : Nat} {x : Nat} (d : decode b pc = .ok (.aload_n q, 1)) (hi : (q : Nat) = i) (z : Nat) (h : ls[z]? = some (i, .ref x)) (K : J l G X nL σ (pc + 1) ls (.ref x :: st)) : J l G X nL σ pc ls st := fun H locs la hz hl => lv_aload_n hx.1 hx.2.1 d hi (lv_at hl z h) (K H locs la hz hl)
theorem j_istore (hx : Gd G X b nL own k) {i : Nat} {x : Int32} (ls' : List (Nat × Value)) (d : decode b pc = .ok (.istore i, 2)) (hn : i < nL) (h : (i, Value.int x) :: ls.filter (fun q => !(q.1 == i) && !(q.1 + 1 == i && q.2.category == 2)) = ls') (K : J l G X nL σ (pc + 2) ls' st) : J l G X nL σ pc ls (.int x :: st) := fun H locs la hz hl => lv_istore hx.1 hx.2.1 d hl hn h (fun la hl => K H locs la hz hl)
theorem j_istore_n (hx : Gd G X b nL own k) {q : Fin 4} {i : Nat} {x : Int32} (ls' : List (Nat × Value)) (d : decode b pc = .ok (.istore_n q, 1)) (hi : (q : Nat) = i) (hn : i < nL) (h : (i, Value.int x) :: ls.filter (fun q => !(q.1 == i) && !(q.1 + 1 == i && q.2.category == 2)) = ls') (K : J l G X nL σ (pc + 1) ls' st) : J l G X nL σ pc ls (.int x :: st) := fun H locs la hz hl => lv_istore_n hx.1 hx.2.1 d hi hl hn h (fun la hl => K H locs la hz hl)
theorem j_lstore (hx : Gd G X b nL own k) {i : Nat} {x : Int64} (ls' : List (Nat × Value)) (d : decode b pc = .ok (.lstore i, 2)) (hn : i + 1 < nL) (h : (i, Value.long x) :: ls.filter (fun q => !(q.1 == i) && (!(q.1 == i + 1) && !(q.1 + 1 == i && q.2.category == 2))) = ls') (K : J l G X nL σ (pc + 2) ls' st) : J l G X nL σ pc ls (.long x :: st) := fun H locs la hz hl => lv_lstore hx.1 hx.2.1 d hl hn h (fun la hl => K H locs la hz hl)
theorem j_lstore_n (hx : Gd G X b nL own k) {q : Fin 4} {i : Nat} {x : Int64} (ls' : List (Nat × Value)) (d : decode b pc = .ok (.lstore_n q, 1)) (hi : (q : Nat) = i) (hn : i + 1 < nL) (h : (i, Value.long x) :: ls.filter (fun q => !(q.1 == i) && (!(q.1 == i + 1) && !(q.1 + 1 == i && q.2.category == 2))) = ls') (K : J l G X nL σ (pc + 1) ls' st) : J l G X nL σ pc ls (.long x :: st) := fun H locs la hz hl => lv_lstore_n hx.1 hx.2.1 d hi hl hn h (fun la hl => K H locs la hz hl)
theorem j_astore (hx : Gd G X b nL own k) {i : Nat} {x : Nat} (ls' : List (Nat × Value)) (d : decode b pc = .ok (.astore i, 2)) (hn : i < nL) (h : (i, Value.ref x) :: ls.filter (fun q => !(q.1 == i) && !(q.1 + 1 == i && q.2.category == 2)) = ls') (K : J l G X nL σ (pc + 2) ls' st) : J l G X nL σ pc ls (.ref x :: st) := fun H locs la hz hl => lv_astore hx.1 hx.2.1 d hl hn h (fun la hl => K H locs la hz hl)
theorem j_astore_n (hx : Gd G X b nL own k) {q : Fin 4} {i : Nat} {x : Nat} (ls' : List (Nat × Value)) (d : decode b pc = .ok (.astore_n q, 1)) (hi : (q : Nat) = i) (hn : i < nL) (h : (i, Value.ref x) :: ls.filter (fun q => !(q.1 == i) && !(q.1 + 1 == i && q.2.category == 2)) = ls') (K : J l G X nL σ (pc + 1) ls' st) : J l G X nL σ pc ls (.ref x :: st) := fun H locs la hz hl => lv_astore_n hx.1 hx.2.1 d hi hl hn h (fun la hl => K H locs la hz hl)
theorem j_iinc (hx : Gd G X b nL own k) {i : Nat} {n : Int} {x v : Int32} (ls' : List (Nat × Value)) (d : decode b pc = .ok (.iinc i n, 3)) (z : Nat) (hz9 : ls[z]? = some (i, .int x)) (hv : x + Int32.ofInt n = v) (hn : i < nL) (h : (i, Value.int v) :: ls.filter (fun q => !(q.1 == i) && !(q.1 + 1 == i && q.2.category == 2)) = ls') (K : J l G X nL σ (pc + 3) ls' st) : J l G X nL σ pc ls st := fun H locs la hz hl => lv_iinc hx.1 hx.2.1 d hl hz9 hv hn h (fun la hl => K H locs la hz hl)
theorem j_lcmp (hx : Gd G X b nL own k) {x y : Int64} (d : decode b pc = .ok (.lcmp, 1)) (K : J l G X nL σ (pc + 1) ls (.int (lg_cmp x y) :: st)) : J l G X nL σ pc ls (.long y :: .long x :: st) := fun H locs la hz hl => W.lcmp hx.1 hx.2.1 d (K H locs la hz hl)
theorem j_ldc (hx : Gd G X b nL own k) {index : Nat} {v : Int32} (t : Cond.constant own index v ∈ TB) (d : decode b pc = .ok (.ldc index, 2)) (K : J l G X nL σ (pc + 2) ls (.int v :: st)) : J l G X nL σ pc ls st := fun H locs la hz hl => lv_ldc hx.1 hx.2.1 hx.2.2.2.1 (hx.2.2.2.2.1 _ t) d (K H locs la hz hl)
theorem j_mmax (hx : Gd G X b nL own k) {x y : Int32} {index : Nat} (t : Cond.methodLink own index Lib.Math.max.name ∈ TB) (h0 : 0 < k) (hcat : (st.map fun v => v.category).sum ≤ 8) (d : decode b pc = .ok (.invokestatic index, 3)) (K : J l G X nL σ (pc + 3) ls (.int (if x < y then y else x) :: st)) : J l G X nL σ pc ls (.int y :: .int x :: st) := fun H locs la hz hl => va_mmax hx.1 hx.2.1 (hx.2.2.1.trans hl.1.symm) hx.2.2.2.1 (hx.2.2.2.2.1 _ t) (hx.2.2.2.2.1 _ m_max_s) (hx.2.2.2.2.1 _ m_math) (hx.2.2.2.2.1 _ m_max_c) (Nat.lt_of_lt_of_le h0 hx.2.2.2.2.2.2.1.1) (by have := hx.2.2.2.2.2.2.1.2; omega) (Nat.zero_le _) (Nat.zero_le _) d (K H locs la hz hl)
theorem j_mmin (hx : Gd G X b nL own k) {x y : Int32} {index : Nat} (t : Cond.methodLink own index Lib.Math.min.name ∈ TB) (h0 : 0 < k) (hcat : (st.map fun v => v.category).sum ≤ 8) (d : decode b pc = .ok (.invokestatic index, 3)) (K : J l G X nL σ (pc + 3) ls (.int (if y < x then y else x) :: st)) : J l G X nL σ pc ls (.int y :: .int x :: st) := fun H locs la hz hl => va_mmin hx.1 hx.2.1 (hx.2.2.1.trans hl.1.symm) hx.2.2.2.1 (hx.2.2.2.2.1 _ t) (hx.2.2.2.2.1 _ m_min_s) (hx.2.2.2.2.1 _ m_math) (hx.2.2.2.2.1 _ m_min_c) (Nat.lt_of_lt_of_le h0 hx.2.2.2.2.2.2.1.1) (by have := hx.2.2.2.2.2.2.1.2; omega) (Nat.zero_le _) (Nat.zero_le _) d (K H locs la hz hl)
theorem j_mabs (hx : Gd G X b nL own k) {x : Int32} {index : Nat} (t : Cond.methodLink own index Lib.Math.abs.name ∈ TB) (h0 : 0 < k) (hcat : (st.map fun v => v.category).sum ≤ 8) (d : decode b pc = .ok (.invokestatic index, 3)) (K : J l G X nL σ (pc + 3) ls (.int (if 0 ≤ x then x else 0 - x) :: st)) : J l G X nL σ pc ls (.int x :: st) := fun H locs la hz hl => va_mabs hx.1 hx.2.1 (hx.2.2.1.trans hl.1.symm) hx.2.2.2.1 (hx.2.2.2.2.1 _ t) (hx.2.2.2.2.1 _ m_abs_s) (hx.2.2.2.2.1 _ m_math) (hx.2.2.2.2.1 _ m_abs_c) (Nat.lt_of_lt_of_le h0 hx.2.2.2.2.2.2.1.1) (by have := hx.2.2.2.2.2.2.1.2; omega) (Nat.zero_le _) (Nat.zero_le _) d (K H locs la hz hl)
theorem j_callVi (hx : Gd G X b nL own k) {y : MethodName} {b' : ByteArray} {nL' n k' index : Nat} {ty : FieldType} {r : Int32} {T : u_T} {N ci o : Nat} {fs : List Value} {As rest : List Value} (hM : MI l G y b' nL' ty k' (.ref (G.1 o) :: As) σ r σ') (m1 : mOK y b' nL' (some ty) n) (m2 : mV y) (t : Cond.methodLink own index y ∈ TB) (hk : k' < k) (hn : As.length = n) (ho : o < 610) (he : zs G o (σ o) = .inr (ci, fs)) (hc : zcl[ci]? = some (y.cls, T, N)) (hst : st = As.reverse ++ .ref (G.1 o) :: rest) (hcat : (rest.map fun v => v.category).sum ≤ 8) (d : decode b pc = .ok (.invokevirtual index, 3)) (K : J l G X nL σ' (pc + 3) ls (.int r :: rest)) : J l G X nL σ pc ls st := by
  intro H locs la hz hl
  refine va_calli (zrun hx hz hl.1 (hM H.size) m1 m2 t hk hn ho he hc hst hcat d) hz.2 (fun q _ h => zafter hz.2 q h) (zafter hz.2) (fun r' u t H1 locs1 ht hvm hw hB hz1 hk1 hS => ?_)
  obtain ⟨rfl, rfl⟩ := hw
  rw [ht] at hB
  exact K H1 locs1 la ⟨hB, hS⟩ hl
theorem j_callVl (hx : Gd G X b nL own k) {y : MethodName} {b' : ByteArray} {nL' n k' index : Nat} {ty : FieldType} {r : Int64} {T : u_T} {N ci o : Nat} {fs : List Value} {As rest : List Value} (hM : ML l G y b' nL' ty k' (.ref (G.1 o) :: As) σ r σ') (m1 : mOK y b' nL' (some ty) n) (m2 : mV y) (t : Cond.methodLink own index y ∈ TB) (hk : k' < k) (hn : As.length = n) (ho : o < 610) (he : zs G o (σ o) = .inr (ci, fs)) (hc : zcl[ci]? = some (y.cls, T, N)) (hst : st = As.reverse ++ .ref (G.1 o) :: rest) (hcat : (rest.map fun v => v.category).sum ≤ 8) (d : decode b pc = .ok (.invokevirtual index, 3)) (K : J l G X nL σ' (pc + 3) ls (.long r :: rest)) : J l G X nL σ pc ls st := by
  intro H locs la hz hl
  refine va_calll (zrun hx hz hl.1 (hM H.size) m1 m2 t hk hn ho he hc hst hcat d) hz.2 (fun q _ h => zafter hz.2 q h) (zafter hz.2) (fun r' u t H1 locs1 ht hvm hw hB hz1 hk1 hS => ?_)
  obtain ⟨rfl, rfl⟩ := hw
  rw [ht] at hB
  exact K H1 locs1 la ⟨hB, hS⟩ hl
theorem j_callVv (hx : Gd G X b nL own k) {y : MethodName} {b' : ByteArray} {nL' n k' index : Nat} {T : u_T} {N ci o : Nat} {fs : List Value} {As rest : List Value} (hM : MV l G y b' nL' k' (.ref (G.1 o) :: As) σ σ') (m1 : mOK y b' nL' none n) (m2 : mV y) (t : Cond.methodLink own index y ∈ TB) (hk : k' < k) (hn : As.length = n) (ho : o < 610) (he : zs G o (σ o) = .inr (ci, fs)) (hc : zcl[ci]? = some (y.cls, T, N)) (hst : st = As.reverse ++ .ref (G.1 o) :: rest) (hcat : (rest.map fun v => v.category).sum ≤ 8) (d : decode b pc = .ok (.invokevirtual index, 3)) (K : J l G X nL σ' (pc + 3) ls (rest)) : J l G X nL σ pc ls st := by
  intro H locs la hz hl
  refine va_callv (zrun hx hz hl.1 (hM H.size) m1 m2 t hk hn ho he hc hst hcat d) hz.2 (fun q _ h => zafter hz.2 q h) (zafter hz.2) (fun u t H1 locs1 ht hvm hw hB hz1 hk1 hS => ?_)
  obtain rfl := hw
  rw [ht] at hB
  exact K H1 locs1 la ⟨hB, hS⟩ hl
theorem j_callSi (hx : Gd G X b nL own k) {y : MethodName} {b' : ByteArray} {nL' n k' index : Nat} {ty : FieldType} {r : Int32} {As rest : List Value} (hM : MI l G y b' nL' ty k' As σ r σ') (m1 : mOK y b' nL' (some ty) n) (m2 : Cond.static y ∈ TB) (t : Cond.methodLink own index y ∈ TB) (hk : k' < k) (hn : As.length = n) (hst : st = As.reverse ++ rest) (hcat : (rest.map fun v => v.category).sum ≤ 8) (d : decode b pc = .ok (.invokestatic index, 3)) (K : J l G X nL σ' (pc + 3) ls (.int r :: rest)) : J l G X nL σ pc ls st := by
  intro H locs la hz hl
  refine va_calli (zrunS hx hz hl.1 (hM H.size) m1 m2 t hk hn hst hcat d) hz.2 (fun q _ h => zafter hz.2 q h) (zafter hz.2) (fun r' u t H1 locs1 ht hvm hw hB hz1 hk1 hS => ?_)
  obtain ⟨rfl, rfl⟩ := hw
  rw [ht] at hB
  exact K H1 locs1 la ⟨hB, hS⟩ hl
theorem j_callSl (hx : Gd G X b nL own k) {y : MethodName} {b' : ByteArray} {nL' n k' index : Nat} {ty : FieldType} {r : Int64} {As rest : List Value} (hM : ML l G y b' nL' ty k' As σ r σ') (m1 : mOK y b' nL' (some ty) n) (m2 : Cond.static y ∈ TB) (t : Cond.methodLink own index y ∈ TB) (hk : k' < k) (hn : As.length = n) (hst : st = As.reverse ++ rest) (hcat : (rest.map fun v => v.category).sum ≤ 8) (d : decode b pc = .ok (.invokestatic index, 3)) (K : J l G X nL σ' (pc + 3) ls (.long r :: rest)) : J l G X nL σ pc ls st := by
  intro H locs la hz hl
  refine va_calll (zrunS hx hz hl.1 (hM H.size) m1 m2 t hk hn hst hcat d) hz.2 (fun q _ h => zafter hz.2 q h) (zafter hz.2) (fun r' u t H1 locs1 ht hvm hw hB hz1 hk1 hS => ?_)
  obtain ⟨rfl, rfl⟩ := hw
  rw [ht] at hB
  exact K H1 locs1 la ⟨hB, hS⟩ hl
theorem j_callSv (hx : Gd G X b nL own k) {y : MethodName} {b' : ByteArray} {nL' n k' index : Nat} {As rest : List Value} (hM : MV l G y b' nL' k' As σ σ') (m1 : mOK y b' nL' none n) (m2 : Cond.static y ∈ TB) (t : Cond.methodLink own index y ∈ TB) (hk : k' < k) (hn : As.length = n) (hst : st = As.reverse ++ rest) (hcat : (rest.map fun v => v.category).sum ≤ 8) (d : decode b pc = .ok (.invokestatic index, 3)) (K : J l G X nL σ' (pc + 3) ls (rest)) : J l G X nL σ pc ls st := by
  intro H locs la hz hl
  refine va_callv (zrunS hx hz hl.1 (hM H.size) m1 m2 t hk hn hst hcat d) hz.2 (fun q _ h => zafter hz.2 q h) (zafter hz.2) (fun u t H1 locs1 ht hvm hw hB hz1 hk1 hS => ?_)
  obtain rfl := hw
  rw [ht] at hB
  exact K H1 locs1 la ⟨hB, hS⟩ hl
theorem j_callNi (hx : Gd G X b nL own k) {y : MethodName} {b' : ByteArray} {nL' n k' index : Nat} {ty : FieldType} {r : Int32} {host : String} {As rest : List Value} (hM : MI l G y b' nL' ty k' As σ r σ') (m1 : mOK y b' nL' (some ty) n) (m2 : Cond.static y ∈ TB) (t : Cond.methodLinkNest own index y host ∈ tables_1) (hk : k' < k) (hn : As.length = n) (hst : st = As.reverse ++ rest) (hcat : (rest.map fun v => v.category).sum ≤ 8) (d : decode b pc = .ok (.invokestatic index, 3)) (K : J l G X nL σ' (pc + 3) ls (.int r :: rest)) : J l G X nL σ pc ls st := by
  intro H locs la hz hl
  refine va_calli (zrunN hx hz hl.1 (hM H.size) m1 m2 t hk hn hst hcat d) hz.2 (fun q _ h => zafter hz.2 q h) (zafter hz.2) (fun r' u t H1 locs1 ht hvm hw hB hz1 hk1 hS => ?_)
  obtain ⟨rfl, rfl⟩ := hw
  rw [ht] at hB
  exact K H1 locs1 la ⟨hB, hS⟩ hl
theorem j_callNl (hx : Gd G X b nL own k) {y : MethodName} {b' : ByteArray} {nL' n k' index : Nat} {ty : FieldType} {r : Int64} {host : String} {As rest : List Value} (hM : ML l G y b' nL' ty k' As σ r σ') (m1 : mOK y b' nL' (some ty) n) (m2 : Cond.static y ∈ TB) (t : Cond.methodLinkNest own index y host ∈ tables_1) (hk : k' < k) (hn : As.length = n) (hst : st = As.reverse ++ rest) (hcat : (rest.map fun v => v.category).sum ≤ 8) (d : decode b pc = .ok (.invokestatic index, 3)) (K : J l G X nL σ' (pc + 3) ls (.long r :: rest)) : J l G X nL σ pc ls st := by
  intro H locs la hz hl
  refine va_calll (zrunN hx hz hl.1 (hM H.size) m1 m2 t hk hn hst hcat d) hz.2 (fun q _ h => zafter hz.2 q h) (zafter hz.2) (fun r' u t H1 locs1 ht hvm hw hB hz1 hk1 hS => ?_)
  obtain ⟨rfl, rfl⟩ := hw
  rw [ht] at hB
  exact K H1 locs1 la ⟨hB, hS⟩ hl
theorem j_callNv (hx : Gd G X b nL own k) {y : MethodName} {b' : ByteArray} {nL' n k' index : Nat} {host : String} {As rest : List Value} (hM : MV l G y b' nL' k' As σ σ') (m1 : mOK y b' nL' none n) (m2 : Cond.static y ∈ TB) (t : Cond.methodLinkNest own index y host ∈ tables_1) (hk : k' < k) (hn : As.length = n) (hst : st = As.reverse ++ rest) (hcat : (rest.map fun v => v.category).sum ≤ 8) (d : decode b pc = .ok (.invokestatic index, 3)) (K : J l G X nL σ' (pc + 3) ls (rest)) : J l G X nL σ pc ls st := by
  intro H locs la hz hl
  refine va_callv (zrunN hx hz hl.1 (hM H.size) m1 m2 t hk hn hst hcat d) hz.2 (fun q _ h => zafter hz.2 q h) (zafter hz.2) (fun u t H1 locs1 ht hvm hw hB hz1 hk1 hS => ?_)
  obtain rfl := hw
  rw [ht] at hB
  exact K H1 locs1 la ⟨hB, hS⟩ hl
end RULES
theorem sh_0 (G : Gz) (f : Nat → Int32) : zs G 0 f = .inr (11, [.ref (G.1 1), .ref (G.1 4), .ref (G.1 27), .ref (G.1 50), .ref (G.1 59), .ref (G.1 68), .ref (G.1 71), .ref (G.1 74), .ref (G.1 81), .ref (G.1 84), .ref (G.1 93), .ref (G.1 98), .ref (G.1 102), .ref (G.1 109), .int (f 14), .int (f 15), .int (f 16)]) := rfl
theorem sh_1 (G : Gz) (f : Nat → Int32) : zs G 1 f = .inr (8, [.ref (G.1 2), .int (f 1), .int (f 2), .int (f 3), .int (f 4), .int (f 5), .int (f 6)]) := rfl
theorem sh_2 (G : Gz) (f : Nat → Int32) : zs G 2 f = zrow G 2 := rfl
theorem sh_3 (G : Gz) (f : Nat → Int32) : zs G 3 f = zarr G 600 f := rfl
theorem sh_4 (G : Gz) (f : Nat → Int32) : zs G 4 f = zcoast G 4 f := rfl
theorem sh_5 (G : Gz) (f : Nat → Int32) : zs G 5 f = zrow G 5 := rfl
theorem sh_6 (G : Gz) (f : Nat → Int32) : zs G 6 f = zarr G 6 f := rfl
theorem sh_7 (G : Gz) (f : Nat → Int32) : zs G 7 f = zrow G 7 := rfl
theorem sh_8 (G : Gz) (f : Nat → Int32) : zs G 8 f = zarr G 12 f := rfl
theorem sh_9 (G : Gz) (f : Nat → Int32) : zs G 9 f = zrow G 9 := rfl
theorem sh_10 (G : Gz) (f : Nat → Int32) : zs G 10 f = zarr G 6 f := rfl
theorem sh_11 (G : Gz) (f : Nat → Int32) : zs G 11 f = zrow G 11 := rfl
theorem sh_12 (G : Gz) (f : Nat → Int32) : zs G 12 f = zarr G 6 f := rfl
theorem sh_13 (G : Gz) (f : Nat → Int32) : zs G 13 f = zrow G 13 := rfl
theorem sh_14 (G : Gz) (f : Nat → Int32) : zs G 14 f = zarr G 3 f := rfl
theorem sh_15 (G : Gz) (f : Nat → Int32) : zs G 15 f = zrow G 15 := rfl
theorem sh_16 (G : Gz) (f : Nat → Int32) : zs G 16 f = zarr G 3 f := rfl
theorem sh_17 (G : Gz) (f : Nat → Int32) : zs G 17 f = zrow G 17 := rfl
theorem sh_18 (G : Gz) (f : Nat → Int32) : zs G 18 f = zarr G 6 f := rfl
theorem sh_19 (G : Gz) (f : Nat → Int32) : zs G 19 f = zrow G 19 := rfl
theorem sh_20 (G : Gz) (f : Nat → Int32) : zs G 20 f = zarr G 6 f := rfl
theorem sh_21 (G : Gz) (f : Nat → Int32) : zs G 21 f = zrow G 21 := rfl
theorem sh_22 (G : Gz) (f : Nat → Int32) : zs G 22 f = zarr G 6 f := rfl
theorem sh_23 (G : Gz) (f : Nat → Int32) : zs G 23 f = zrow G 23 := rfl
theorem sh_24 (G : Gz) (f : Nat → Int32) : zs G 24 f = zarr G 6 f := rfl
theorem sh_25 (G : Gz) (f : Nat → Int32) : zs G 25 f = zrow G 25 := rfl
theorem sh_26 (G : Gz) (f : Nat → Int32) : zs G 26 f = zarr G 6 f := rfl
theorem sh_27 (G : Gz) (f : Nat → Int32) : zs G 27 f = zcoast G 27 f := rfl
theorem sh_28 (G : Gz) (f : Nat → Int32) : zs G 28 f = zrow G 28 := rfl
theorem sh_29 (G : Gz) (f : Nat → Int32) : zs G 29 f = zarr G 6 f := rfl
theorem sh_30 (G : Gz) (f : Nat → Int32) : zs G 30 f = zrow G 30 := rfl
theorem sh_31 (G : Gz) (f : Nat → Int32) : zs G 31 f = zarr G 12 f := rfl
theorem sh_32 (G : Gz) (f : Nat → Int32) : zs G 32 f = zrow G 32 := rfl
theorem sh_33 (G : Gz) (f : Nat → Int32) : zs G 33 f = zarr G 6 f := rfl
theorem sh_34 (G : Gz) (f : Nat → Int32) : zs G 34 f = zrow G 34 := rfl
theorem sh_35 (G : Gz) (f : Nat → Int32) : zs G 35 f = zarr G 6 f := rfl
theorem sh_36 (G : Gz) (f : Nat → Int32) : zs G 36 f = zrow G 36 := rfl
theorem sh_37 (G : Gz) (f : Nat → Int32) : zs G 37 f = zarr G 3 f := rfl
theorem sh_38 (G : Gz) (f : Nat → Int32) : zs G 38 f = zrow G 38 := rfl
theorem sh_39 (G : Gz) (f : Nat → Int32) : zs G 39 f = zarr G 3 f := rfl
theorem sh_40 (G : Gz) (f : Nat → Int32) : zs G 40 f = zrow G 40 := rfl
theorem sh_41 (G : Gz) (f : Nat → Int32) : zs G 41 f = zarr G 6 f := rfl
theorem sh_42 (G : Gz) (f : Nat → Int32) : zs G 42 f = zrow G 42 := rfl
theorem sh_43 (G : Gz) (f : Nat → Int32) : zs G 43 f = zarr G 6 f := rfl
theorem sh_44 (G : Gz) (f : Nat → Int32) : zs G 44 f = zrow G 44 := rfl
theorem sh_45 (G : Gz) (f : Nat → Int32) : zs G 45 f = zarr G 6 f := rfl
theorem sh_46 (G : Gz) (f : Nat → Int32) : zs G 46 f = zrow G 46 := rfl
theorem sh_47 (G : Gz) (f : Nat → Int32) : zs G 47 f = zarr G 6 f := rfl
theorem sh_48 (G : Gz) (f : Nat → Int32) : zs G 48 f = zrow G 48 := rfl
theorem sh_49 (G : Gz) (f : Nat → Int32) : zs G 49 f = zarr G 6 f := rfl
theorem sh_50 (G : Gz) (f : Nat → Int32) : zs G 50 f = zlaw G 50 f := rfl
theorem sh_51 (G : Gz) (f : Nat → Int32) : zs G 51 f = zrow G 51 := rfl
theorem sh_52 (G : Gz) (f : Nat → Int32) : zs G 52 f = zarr G 150 f := rfl
theorem sh_53 (G : Gz) (f : Nat → Int32) : zs G 53 f = zrow G 53 := rfl
theorem sh_54 (G : Gz) (f : Nat → Int32) : zs G 54 f = zarr G 150 f := rfl
theorem sh_55 (G : Gz) (f : Nat → Int32) : zs G 55 f = zrow G 55 := rfl
theorem sh_56 (G : Gz) (f : Nat → Int32) : zs G 56 f = zarr G 9 f := rfl
theorem sh_57 (G : Gz) (f : Nat → Int32) : zs G 57 f = zrow G 57 := rfl
theorem sh_58 (G : Gz) (f : Nat → Int32) : zs G 58 f = zarr G 150 f := rfl
theorem sh_59 (G : Gz) (f : Nat → Int32) : zs G 59 f = zlaw G 59 f := rfl
theorem sh_60 (G : Gz) (f : Nat → Int32) : zs G 60 f = zrow G 60 := rfl
theorem sh_61 (G : Gz) (f : Nat → Int32) : zs G 61 f = zarr G 150 f := rfl
theorem sh_62 (G : Gz) (f : Nat → Int32) : zs G 62 f = zrow G 62 := rfl
theorem sh_63 (G : Gz) (f : Nat → Int32) : zs G 63 f = zarr G 150 f := rfl
theorem sh_64 (G : Gz) (f : Nat → Int32) : zs G 64 f = zrow G 64 := rfl
theorem sh_65 (G : Gz) (f : Nat → Int32) : zs G 65 f = zarr G 9 f := rfl
theorem sh_66 (G : Gz) (f : Nat → Int32) : zs G 66 f = zrow G 66 := rfl
theorem sh_67 (G : Gz) (f : Nat → Int32) : zs G 67 f = zarr G 150 f := rfl
theorem sh_68 (G : Gz) (f : Nat → Int32) : zs G 68 f = zlog G 68 f := rfl
theorem sh_69 (G : Gz) (f : Nat → Int32) : zs G 69 f = zrow G 69 := rfl
theorem sh_70 (G : Gz) (f : Nat → Int32) : zs G 70 f = zarr G 60 f := rfl
theorem sh_71 (G : Gz) (f : Nat → Int32) : zs G 71 f = zlog G 71 f := rfl
theorem sh_72 (G : Gz) (f : Nat → Int32) : zs G 72 f = zrow G 72 := rfl
theorem sh_73 (G : Gz) (f : Nat → Int32) : zs G 73 f = zarr G 60 f := rfl
theorem sh_74 (G : Gz) (f : Nat → Int32) : zs G 74 f = .inr (10, [.ref (G.1 75), .ref (G.1 77), .ref (G.1 79), .int (f 3), .int (f 4), .int (f 5), .int (f 6)]) := rfl
theorem sh_75 (G : Gz) (f : Nat → Int32) : zs G 75 f = zrow G 75 := rfl
theorem sh_76 (G : Gz) (f : Nat → Int32) : zs G 76 f = zarr G 150 f := rfl
theorem sh_77 (G : Gz) (f : Nat → Int32) : zs G 77 f = zrow G 77 := rfl
theorem sh_78 (G : Gz) (f : Nat → Int32) : zs G 78 f = zarr G 150 f := rfl
theorem sh_79 (G : Gz) (f : Nat → Int32) : zs G 79 f = zrow G 79 := rfl
theorem sh_80 (G : Gz) (f : Nat → Int32) : zs G 80 f = zarr G 150 f := rfl
theorem sh_81 (G : Gz) (f : Nat → Int32) : zs G 81 f = znights G 81 := rfl
theorem sh_82 (G : Gz) (f : Nat → Int32) : zs G 82 f = zrow G 82 := rfl
theorem sh_83 (G : Gz) (f : Nat → Int32) : zs G 83 f = zarr G 29 f := rfl
theorem sh_84 (G : Gz) (f : Nat → Int32) : zs G 84 f = .inr (5, [.ref (G.1 85), .ref (G.1 87), .ref (G.1 89), .ref (G.1 91)]) := rfl
theorem sh_85 (G : Gz) (f : Nat → Int32) : zs G 85 f = zrow G 85 := rfl
theorem sh_86 (G : Gz) (f : Nat → Int32) : zs G 86 f = zarr G 12 f := rfl
theorem sh_87 (G : Gz) (f : Nat → Int32) : zs G 87 f = zrow G 87 := rfl
theorem sh_88 (G : Gz) (f : Nat → Int32) : zs G 88 f = zarr G 12 f := rfl
theorem sh_89 (G : Gz) (f : Nat → Int32) : zs G 89 f = zrow G 89 := rfl
theorem sh_90 (G : Gz) (f : Nat → Int32) : zs G 90 f = zarr G 72 f := rfl
theorem sh_91 (G : Gz) (f : Nat → Int32) : zs G 91 f = zrow G 91 := rfl
theorem sh_92 (G : Gz) (f : Nat → Int32) : zs G 92 f = zarr G 72 f := rfl
theorem sh_93 (G : Gz) (f : Nat → Int32) : zs G 93 f = .inr (6, [.ref (G.1 94), .ref (G.1 96), .int (f 2), .int (f 3), .int (f 4), .int (f 5)]) := rfl
theorem sh_94 (G : Gz) (f : Nat → Int32) : zs G 94 f = zrow G 94 := rfl
theorem sh_95 (G : Gz) (f : Nat → Int32) : zs G 95 f = zarr G 12 f := rfl
theorem sh_96 (G : Gz) (f : Nat → Int32) : zs G 96 f = zrow G 96 := rfl
theorem sh_97 (G : Gz) (f : Nat → Int32) : zs G 97 f = zarr G 36 f := rfl
theorem sh_98 (G : Gz) (f : Nat → Int32) : zs G 98 f = .inr (9, [.ref (G.1 99), .int (f 1), .int (f 2)]) := rfl
theorem sh_99 (G : Gz) (f : Nat → Int32) : zs G 99 f = znights G 99 := rfl
theorem sh_100 (G : Gz) (f : Nat → Int32) : zs G 100 f = zrow G 100 := rfl
theorem sh_101 (G : Gz) (f : Nat → Int32) : zs G 101 f = zarr G 29 f := rfl
theorem sh_102 (G : Gz) (f : Nat → Int32) : zs G 102 f = .inr (2, [.ref (G.1 103), .ref (G.1 105), .ref (G.1 107), .int (f 3), .int (f 4)]) := rfl
theorem sh_103 (G : Gz) (f : Nat → Int32) : zs G 103 f = zrow G 103 := rfl
theorem sh_104 (G : Gz) (f : Nat → Int32) : zs G 104 f = zarr G 464 f := rfl
theorem sh_105 (G : Gz) (f : Nat → Int32) : zs G 105 f = zrow G 105 := rfl
theorem sh_106 (G : Gz) (f : Nat → Int32) : zs G 106 f = zarr G 1479 f := rfl
theorem sh_107 (G : Gz) (f : Nat → Int32) : zs G 107 f = zrow G 107 := rfl
theorem sh_108 (G : Gz) (f : Nat → Int32) : zs G 108 f = zarr G 3 f := rfl
theorem sh_109 (G : Gz) (f : Nat → Int32) : zs G 109 f = zrow G 109 := rfl
theorem sh_110 (G : Gz) (f : Nat → Int32) : zs G 110 f = zarr G 256 f := rfl
theorem sh_111 (G : Gz) (f : Nat → Int32) : zs G 111 f = .inr (12, [.int (f 0), .int (f 1), .int (f 2), .int (f 3), .int (f 4), .int (f 5), .int (f 6), .int (f 7), .int (f 8), .ref (G.1 112), .ref (G.1 113), .ref (G.1 114), .ref (G.1 115), .ref (G.1 116), .ref (G.1 117), .ref (G.1 118), .ref (G.1 119), .ref (G.1 124), .ref (G.1 125), .ref (G.1 126), .ref (G.1 127), .ref (G.1 128), .ref (G.1 129), .int (f 23), .int (f 24), .ref (G.1 130), .ref (G.1 131), .ref (G.1 132), .ref (G.1 133), .ref (G.1 120), .ref (G.1 121), .ref (G.1 134), .int (f 32), .ref (G.1 122), .ref (G.1 123), .ref (G.1 135), .ref (G.1 136), .int (f 37), .int (f 38), .int (f 39), .int (f 40), .int (f 41), .int (f 42), .int (f 43), .int (f 44), .int (f 45), .int (f 46), .int (f 47), .int (f 48), .int (f 49)]) := rfl
theorem sh_112 (G : Gz) (f : Nat → Int32) : zs G 112 f = zarr G 600 f := rfl
theorem sh_113 (G : Gz) (f : Nat → Int32) : zs G 113 f = zarr G 2 f := rfl
theorem sh_114 (G : Gz) (f : Nat → Int32) : zs G 114 f = zarr G 6 f := rfl
theorem sh_115 (G : Gz) (f : Nat → Int32) : zs G 115 f = zarr G 6 f := rfl
theorem sh_116 (G : Gz) (f : Nat → Int32) : zs G 116 f = zarr G 12 f := rfl
theorem sh_117 (G : Gz) (f : Nat → Int32) : zs G 117 f = zarr G 12 f := rfl
theorem sh_118 (G : Gz) (f : Nat → Int32) : zs G 118 f = zarr G 6 f := rfl
theorem sh_119 (G : Gz) (f : Nat → Int32) : zs G 119 f = zarr G 6 f := rfl
theorem sh_120 (G : Gz) (f : Nat → Int32) : zs G 120 f = zarr G 160 f := rfl
theorem sh_121 (G : Gz) (f : Nat → Int32) : zs G 121 f = zarr G 9 f := rfl
theorem sh_122 (G : Gz) (f : Nat → Int32) : zs G 122 f = zarr G 31 f := rfl
theorem sh_123 (G : Gz) (f : Nat → Int32) : zs G 123 f = zarr G 31 f := rfl
theorem sh_124 (G : Gz) (f : Nat → Int32) : zs G 124 f = zars G 6 137 := rfl
theorem sh_125 (G : Gz) (f : Nat → Int32) : zs G 125 f = zars G 6 143 := rfl
theorem sh_126 (G : Gz) (f : Nat → Int32) : zs G 126 f = zars G 3 149 := rfl
theorem sh_127 (G : Gz) (f : Nat → Int32) : zs G 127 f = zars G 3 152 := rfl
theorem sh_128 (G : Gz) (f : Nat → Int32) : zs G 128 f = zars G 6 155 := rfl
theorem sh_129 (G : Gz) (f : Nat → Int32) : zs G 129 f = zars G 6 161 := rfl
theorem sh_130 (G : Gz) (f : Nat → Int32) : zs G 130 f = zars G 160 167 := rfl
theorem sh_131 (G : Gz) (f : Nat → Int32) : zs G 131 f = zars G 160 327 := rfl
theorem sh_132 (G : Gz) (f : Nat → Int32) : zs G 132 f = zars G 12 487 := rfl
theorem sh_133 (G : Gz) (f : Nat → Int32) : zs G 133 f = zars G 12 499 := rfl
theorem sh_134 (G : Gz) (f : Nat → Int32) : zs G 134 f = zars G 80 511 := rfl
theorem sh_135 (G : Gz) (f : Nat → Int32) : zs G 135 f = zars G 16 591 := rfl
theorem sh_136 (G : Gz) (f : Nat → Int32) : zs G 136 f = zars G 3 607 := rfl
/-- a Row of n places at o; a Coast, a Law, a FlashLog, Nights at o -/
def isRow (o n : Nat) : Prop := (o + 1 < 610 ∧ n < 2000) ∧ (∀ G f, zs G o f = zrow G o) ∧ (∀ G f, zs G (o + 1) f = zarr G n f)
def isCoast (o : Nat) : Prop := o + 22 < 610 ∧ (∀ G f, zs G o f = zcoast G o f) ∧ isRow (o + 1) 6 ∧ isRow (o + 3) 12 ∧ isRow (o + 5) 6 ∧ isRow (o + 7) 6 ∧ isRow (o + 9) 3 ∧ isRow (o + 11) 3 ∧ isRow (o + 13) 6 ∧ isRow (o + 15) 6 ∧ isRow (o + 17) 6 ∧ isRow (o + 19) 6 ∧ isRow (o + 21) 6
def isLaw (o : Nat) : Prop := o + 8 < 610 ∧ (∀ G f, zs G o f = zlaw G o f) ∧ isRow (o + 1) 150 ∧ isRow (o + 3) 150 ∧ isRow (o + 5) 9 ∧ isRow (o + 7) 150
def isLog (o : Nat) : Prop := o + 2 < 610 ∧ (∀ G f, zs G o f = zlog G o f) ∧ isRow (o + 1) 60
def isNights (o : Nat) : Prop := o + 2 < 610 ∧ (∀ G f, zs G o f = znights G o) ∧ isRow (o + 1) 29
theorem isRow_of {o n : Nat} (h : o + 1 < 610 ∧ n < 2000) (h1 : ∀ G f, zs G o f = zrow G o) (h2 : ∀ G f, zs G (o + 1) f = zarr G n f) : isRow o n := ⟨h, h1, h2⟩
theorem ir_2 : isRow 2 600 := ⟨by decide, sh_2, sh_3⟩
theorem ir_5 : isRow 5 6 := ⟨by decide, sh_5, sh_6⟩
theorem ir_7 : isRow 7 12 := ⟨by decide, sh_7, sh_8⟩
theorem ir_9 : isRow 9 6 := ⟨by decide, sh_9, sh_10⟩
theorem ir_11 : isRow 11 6 := ⟨by decide, sh_11, sh_12⟩
theorem ir_13 : isRow 13 3 := ⟨by decide, sh_13, sh_14⟩
theorem ir_15 : isRow 15 3 := ⟨by decide, sh_15, sh_16⟩
theorem ir_17 : isRow 17 6 := ⟨by decide, sh_17, sh_18⟩
theorem ir_19 : isRow 19 6 := ⟨by decide, sh_19, sh_20⟩
theorem ir_21 : isRow 21 6 := ⟨by decide, sh_21, sh_22⟩
theorem ir_23 : isRow 23 6 := ⟨by decide, sh_23, sh_24⟩
theorem ir_25 : isRow 25 6 := ⟨by decide, sh_25, sh_26⟩
theorem ir_28 : isRow 28 6 := ⟨by decide, sh_28, sh_29⟩
theorem ir_30 : isRow 30 12 := ⟨by decide, sh_30, sh_31⟩
theorem ir_32 : isRow 32 6 := ⟨by decide, sh_32, sh_33⟩
theorem ir_34 : isRow 34 6 := ⟨by decide, sh_34, sh_35⟩
theorem ir_36 : isRow 36 3 := ⟨by decide, sh_36, sh_37⟩
theorem ir_38 : isRow 38 3 := ⟨by decide, sh_38, sh_39⟩
theorem ir_40 : isRow 40 6 := ⟨by decide, sh_40, sh_41⟩
theorem ir_42 : isRow 42 6 := ⟨by decide, sh_42, sh_43⟩
theorem ir_44 : isRow 44 6 := ⟨by decide, sh_44, sh_45⟩
theorem ir_46 : isRow 46 6 := ⟨by decide, sh_46, sh_47⟩
theorem ir_48 : isRow 48 6 := ⟨by decide, sh_48, sh_49⟩
theorem ir_51 : isRow 51 150 := ⟨by decide, sh_51, sh_52⟩
theorem ir_53 : isRow 53 150 := ⟨by decide, sh_53, sh_54⟩
theorem ir_55 : isRow 55 9 := ⟨by decide, sh_55, sh_56⟩
theorem ir_57 : isRow 57 150 := ⟨by decide, sh_57, sh_58⟩
theorem ir_60 : isRow 60 150 := ⟨by decide, sh_60, sh_61⟩
theorem ir_62 : isRow 62 150 := ⟨by decide, sh_62, sh_63⟩
theorem ir_64 : isRow 64 9 := ⟨by decide, sh_64, sh_65⟩
theorem ir_66 : isRow 66 150 := ⟨by decide, sh_66, sh_67⟩
theorem ir_69 : isRow 69 60 := ⟨by decide, sh_69, sh_70⟩
theorem ir_72 : isRow 72 60 := ⟨by decide, sh_72, sh_73⟩
theorem ir_75 : isRow 75 150 := ⟨by decide, sh_75, sh_76⟩
theorem ir_77 : isRow 77 150 := ⟨by decide, sh_77, sh_78⟩
theorem ir_79 : isRow 79 150 := ⟨by decide, sh_79, sh_80⟩
theorem ir_82 : isRow 82 29 := ⟨by decide, sh_82, sh_83⟩
theorem ir_85 : isRow 85 12 := ⟨by decide, sh_85, sh_86⟩
theorem ir_87 : isRow 87 12 := ⟨by decide, sh_87, sh_88⟩
theorem ir_89 : isRow 89 72 := ⟨by decide, sh_89, sh_90⟩
theorem ir_91 : isRow 91 72 := ⟨by decide, sh_91, sh_92⟩
theorem ir_94 : isRow 94 12 := ⟨by decide, sh_94, sh_95⟩
theorem ir_96 : isRow 96 36 := ⟨by decide, sh_96, sh_97⟩
theorem ir_100 : isRow 100 29 := ⟨by decide, sh_100, sh_101⟩
theorem ir_103 : isRow 103 464 := ⟨by decide, sh_103, sh_104⟩
theorem ir_105 : isRow 105 1479 := ⟨by decide, sh_105, sh_106⟩
theorem ir_107 : isRow 107 3 := ⟨by decide, sh_107, sh_108⟩
theorem ir_109 : isRow 109 256 := ⟨by decide, sh_109, sh_110⟩
theorem isCoast_4 : isCoast 4 := ⟨by decide, sh_4, ir_5, ir_7, ir_9, ir_11, ir_13, ir_15, ir_17, ir_19, ir_21, ir_23, ir_25⟩
theorem isCoast_27 : isCoast 27 := ⟨by decide, sh_27, ir_28, ir_30, ir_32, ir_34, ir_36, ir_38, ir_40, ir_42, ir_44, ir_46, ir_48⟩
theorem isLaw_50 : isLaw 50 := ⟨by decide, sh_50, ir_51, ir_53, ir_55, ir_57⟩
theorem isLaw_59 : isLaw 59 := ⟨by decide, sh_59, ir_60, ir_62, ir_64, ir_66⟩
theorem isLog_68 : isLog 68 := ⟨by decide, sh_68, ir_69⟩
theorem isLog_71 : isLog 71 := ⟨by decide, sh_71, ir_72⟩
theorem isNights_81 : isNights 81 := ⟨by decide, sh_81, ir_82⟩
theorem isNights_99 : isNights 99 := ⟨by decide, sh_99, ir_100⟩
theorem sb_readLight {i : Nat} (h : i < 6) (G : Gz) (f : Nat → Int32) : zs G (137 + i) f = zarr G 2 f := by
  have h1 : (zt G)[137 + i]? = none := List.getElem?_eq_none (by show 137 ≤ _; omega)
  have h2 : zlen (137 + i) = 2 := by unfold zlen; split <;> first | rfl | (split <;> first | rfl | (split <;> first | rfl | (split <;> first | rfl | (split <;> first | rfl | omega) | omega) | omega) | omega) | omega
  unfold zs; rw [h1, h2]
theorem sb_light {i : Nat} (h : i < 6) (G : Gz) (f : Nat → Int32) : zs G (143 + i) f = zarr G 2 f := by
  have h1 : (zt G)[143 + i]? = none := List.getElem?_eq_none (by show 137 ≤ _; omega)
  have h2 : zlen (143 + i) = 2 := by unfold zlen; split <;> first | rfl | (split <;> first | rfl | (split <;> first | rfl | (split <;> first | rfl | (split <;> first | rfl | omega) | omega) | omega) | omega) | omega
  unfold zs; rw [h1, h2]
theorem sb_readDonkey {i : Nat} (h : i < 3) (G : Gz) (f : Nat → Int32) : zs G (149 + i) f = zarr G 2 f := by
  have h1 : (zt G)[149 + i]? = none := List.getElem?_eq_none (by show 137 ≤ _; omega)
  have h2 : zlen (149 + i) = 2 := by unfold zlen; split <;> first | rfl | (split <;> first | rfl | (split <;> first | rfl | (split <;> first | rfl | (split <;> first | rfl | omega) | omega) | omega) | omega) | omega
  unfold zs; rw [h1, h2]
theorem sb_donkey {i : Nat} (h : i < 3) (G : Gz) (f : Nat → Int32) : zs G (152 + i) f = zarr G 2 f := by
  have h1 : (zt G)[152 + i]? = none := List.getElem?_eq_none (by show 137 ≤ _; omega)
  have h2 : zlen (152 + i) = 2 := by unfold zlen; split <;> first | rfl | (split <;> first | rfl | (split <;> first | rfl | (split <;> first | rfl | (split <;> first | rfl | omega) | omega) | omega) | omega) | omega
  unfold zs; rw [h1, h2]
theorem sb_readShip {i : Nat} (h : i < 6) (G : Gz) (f : Nat → Int32) : zs G (155 + i) f = zarr G 4 f := by
  have h1 : (zt G)[155 + i]? = none := List.getElem?_eq_none (by show 137 ≤ _; omega)
  have h2 : zlen (155 + i) = 4 := by unfold zlen; split <;> first | rfl | (split <;> first | rfl | (split <;> first | rfl | (split <;> first | rfl | (split <;> first | rfl | omega) | omega) | omega) | omega) | omega
  unfold zs; rw [h1, h2]
theorem sb_ship {i : Nat} (h : i < 6) (G : Gz) (f : Nat → Int32) : zs G (161 + i) f = zarr G 4 f := by
  have h1 : (zt G)[161 + i]? = none := List.getElem?_eq_none (by show 137 ≤ _; omega)
  have h2 : zlen (161 + i) = 4 := by unfold zlen; split <;> first | rfl | (split <;> first | rfl | (split <;> first | rfl | (split <;> first | rfl | (split <;> first | rfl | omega) | omega) | omega) | omega) | omega
  unfold zs; rw [h1, h2]
theorem sb_law {i : Nat} (h : i < 160) (G : Gz) (f : Nat → Int32) : zs G (167 + i) f = zarr G 2 f := by
  have h1 : (zt G)[167 + i]? = none := List.getElem?_eq_none (by show 137 ≤ _; omega)
  have h2 : zlen (167 + i) = 2 := by unfold zlen; split <;> first | rfl | (split <;> first | rfl | (split <;> first | rfl | (split <;> first | rfl | (split <;> first | rfl | omega) | omega) | omega) | omega) | omega
  unfold zs; rw [h1, h2]
theorem sb_readLaw {i : Nat} (h : i < 160) (G : Gz) (f : Nat → Int32) : zs G (327 + i) f = zarr G 2 f := by
  have h1 : (zt G)[327 + i]? = none := List.getElem?_eq_none (by show 137 ≤ _; omega)
  have h2 : zlen (327 + i) = 2 := by unfold zlen; split <;> first | rfl | (split <;> first | rfl | (split <;> first | rfl | (split <;> first | rfl | (split <;> first | rfl | omega) | omega) | omega) | omega) | omega
  unfold zs; rw [h1, h2]
theorem sb_log {i : Nat} (h : i < 12) (G : Gz) (f : Nat → Int32) : zs G (487 + i) f = zarr G 2 f := by
  have h1 : (zt G)[487 + i]? = none := List.getElem?_eq_none (by show 137 ≤ _; omega)
  have h2 : zlen (487 + i) = 2 := by unfold zlen; split <;> first | rfl | (split <;> first | rfl | (split <;> first | rfl | (split <;> first | rfl | (split <;> first | rfl | omega) | omega) | omega) | omega) | omega
  unfold zs; rw [h1, h2]
theorem sb_readLog {i : Nat} (h : i < 12) (G : Gz) (f : Nat → Int32) : zs G (499 + i) f = zarr G 2 f := by
  have h1 : (zt G)[499 + i]? = none := List.getElem?_eq_none (by show 137 ≤ _; omega)
  have h2 : zlen (499 + i) = 2 := by unfold zlen; split <;> first | rfl | (split <;> first | rfl | (split <;> first | rfl | (split <;> first | rfl | (split <;> first | rfl | omega) | omega) | omega) | omega) | omega
  unfold zs; rw [h1, h2]
theorem sb_step {i : Nat} (h : i < 80) (G : Gz) (f : Nat → Int32) : zs G (511 + i) f = zarr G 4 f := by
  have h1 : (zt G)[511 + i]? = none := List.getElem?_eq_none (by show 137 ≤ _; omega)
  have h2 : zlen (511 + i) = 4 := by unfold zlen; split <;> first | rfl | (split <;> first | rfl | (split <;> first | rfl | (split <;> first | rfl | (split <;> first | rfl | omega) | omega) | omega) | omega) | omega
  unfold zs; rw [h1, h2]
theorem sb_before {i : Nat} (h : i < 16) (G : Gz) (f : Nat → Int32) : zs G (591 + i) f = zarr G 31 f := by
  have h1 : (zt G)[591 + i]? = none := List.getElem?_eq_none (by show 137 ≤ _; omega)
  have h2 : zlen (591 + i) = 31 := by unfold zlen; split <;> first | rfl | (split <;> first | rfl | (split <;> first | rfl | (split <;> first | rfl | (split <;> first | rfl | omega) | omega) | omega) | omega) | omega
  unfold zs; rw [h1, h2]
theorem sb_kept {i : Nat} (h : i < 3) (G : Gz) (f : Nat → Int32) : zs G (607 + i) f = zarr G 528 f := by
  have h1 : (zt G)[607 + i]? = none := List.getElem?_eq_none (by show 137 ≤ _; omega)
  have h2 : zlen (607 + i) = 528 := by unfold zlen; split <;> first | rfl | (split <;> first | rfl | (split <;> first | rfl | (split <;> first | rfl | (split <;> first | rfl | omega) | omega) | omega) | omega) | omega
  unfold zs; rw [h1, h2]
theorem ck_Coast : cOK 0 R_Coast T_Coast 12 := by
  refine ⟨rfl, ?_, ⟨fun k => ((parseFieldDescriptor (T_Coast k).2.2.1).getD .int), by decide +kernel⟩, by decide +kernel⟩
  intro w hw
  obtain ⟨j, hj, rfl⟩ := List.mem_map.mp hw
  have hj := List.mem_range.mp hj
  rcases Nat.lt_or_eq_of_le (Nat.le_of_lt_succ hj) with hj | rfl
  rotate_left
  · exact t_136
  rcases Nat.lt_or_eq_of_le (Nat.le_of_lt_succ hj) with hj | rfl
  rotate_left
  · exact t_134
  rcases Nat.lt_or_eq_of_le (Nat.le_of_lt_succ hj) with hj | rfl
  rotate_left
  · exact t_132
  rcases Nat.lt_or_eq_of_le (Nat.le_of_lt_succ hj) with hj | rfl
  rotate_left
  · exact t_130
  rcases Nat.lt_or_eq_of_le (Nat.le_of_lt_succ hj) with hj | rfl
  rotate_left
  · exact t_128
  rcases Nat.lt_or_eq_of_le (Nat.le_of_lt_succ hj) with hj | rfl
  rotate_left
  · exact t_126
  rcases Nat.lt_or_eq_of_le (Nat.le_of_lt_succ hj) with hj | rfl
  rotate_left
  · exact t_124
  rcases Nat.lt_or_eq_of_le (Nat.le_of_lt_succ hj) with hj | rfl
  rotate_left
  · exact t_122
  rcases Nat.lt_or_eq_of_le (Nat.le_of_lt_succ hj) with hj | rfl
  rotate_left
  · exact t_120
  rcases Nat.lt_or_eq_of_le (Nat.le_of_lt_succ hj) with hj | rfl
  rotate_left
  · exact t_118
  rcases Nat.lt_or_eq_of_le (Nat.le_of_lt_succ hj) with hj | rfl
  rotate_left
  · exact t_116
  rcases Nat.lt_or_eq_of_le (Nat.le_of_lt_succ hj) with hj | rfl
  rotate_left
  · exact t_114
  exact absurd hj (Nat.not_lt_zero _)
theorem ck_FlashLog : cOK 1 R_FlashLog T_FlashLog 2 := by
  refine ⟨rfl, ?_, ⟨fun k => ((parseFieldDescriptor (T_FlashLog k).2.2.1).getD .int), by decide +kernel⟩, by decide +kernel⟩
  intro w hw
  obtain ⟨j, hj, rfl⟩ := List.mem_map.mp hw
  have hj := List.mem_range.mp hj
  rcases Nat.lt_or_eq_of_le (Nat.le_of_lt_succ hj) with hj | rfl
  rotate_left
  · exact t_187
  rcases Nat.lt_or_eq_of_le (Nat.le_of_lt_succ hj) with hj | rfl
  rotate_left
  · exact t_185
  exact absurd hj (Nat.not_lt_zero _)
theorem ck_History : cOK 2 R_History T_History 5 := by
  refine ⟨rfl, ?_, ⟨fun k => ((parseFieldDescriptor (T_History k).2.2.1).getD .int), by decide +kernel⟩, by decide +kernel⟩
  intro w hw
  obtain ⟨j, hj, rfl⟩ := List.mem_map.mp hw
  have hj := List.mem_range.mp hj
  rcases Nat.lt_or_eq_of_le (Nat.le_of_lt_succ hj) with hj | rfl
  rotate_left
  · exact t_321
  rcases Nat.lt_or_eq_of_le (Nat.le_of_lt_succ hj) with hj | rfl
  rotate_left
  · exact t_319
  rcases Nat.lt_or_eq_of_le (Nat.le_of_lt_succ hj) with hj | rfl
  rotate_left
  · exact t_317
  rcases Nat.lt_or_eq_of_le (Nat.le_of_lt_succ hj) with hj | rfl
  rotate_left
  · exact t_315
  rcases Nat.lt_or_eq_of_le (Nat.le_of_lt_succ hj) with hj | rfl
  rotate_left
  · exact t_313
  exact absurd hj (Nat.not_lt_zero _)
theorem ck_Law : cOK 3 R_Law T_Law 5 := by
  refine ⟨rfl, ?_, ⟨fun k => ((parseFieldDescriptor (T_Law k).2.2.1).getD .int), by decide +kernel⟩, by decide +kernel⟩
  intro w hw
  obtain ⟨j, hj, rfl⟩ := List.mem_map.mp hw
  have hj := List.mem_range.mp hj
  rcases Nat.lt_or_eq_of_le (Nat.le_of_lt_succ hj) with hj | rfl
  rotate_left
  · exact t_172
  rcases Nat.lt_or_eq_of_le (Nat.le_of_lt_succ hj) with hj | rfl
  rotate_left
  · exact t_170
  rcases Nat.lt_or_eq_of_le (Nat.le_of_lt_succ hj) with hj | rfl
  rotate_left
  · exact t_168
  rcases Nat.lt_or_eq_of_le (Nat.le_of_lt_succ hj) with hj | rfl
  rotate_left
  · exact t_166
  rcases Nat.lt_or_eq_of_le (Nat.le_of_lt_succ hj) with hj | rfl
  rotate_left
  · exact t_164
  exact absurd hj (Nat.not_lt_zero _)
theorem ck_Nights : cOK 4 R_Nights T_Nights 1 := by
  refine ⟨rfl, ?_, ⟨fun k => ((parseFieldDescriptor (T_Nights k).2.2.1).getD .int), by decide +kernel⟩, by decide +kernel⟩
  intro w hw
  obtain ⟨j, hj, rfl⟩ := List.mem_map.mp hw
  have hj := List.mem_range.mp hj
  rcases Nat.lt_or_eq_of_le (Nat.le_of_lt_succ hj) with hj | rfl
  rotate_left
  · exact t_231
  exact absurd hj (Nat.not_lt_zero _)
theorem ck_Passing : cOK 5 R_Passing T_Passing 4 := by
  refine ⟨rfl, ?_, ⟨fun k => ((parseFieldDescriptor (T_Passing k).2.2.1).getD .int), by decide +kernel⟩, by decide +kernel⟩
  intro w hw
  obtain ⟨j, hj, rfl⟩ := List.mem_map.mp hw
  have hj := List.mem_range.mp hj
  rcases Nat.lt_or_eq_of_le (Nat.le_of_lt_succ hj) with hj | rfl
  rotate_left
  · exact t_252
  rcases Nat.lt_or_eq_of_le (Nat.le_of_lt_succ hj) with hj | rfl
  rotate_left
  · exact t_250
  rcases Nat.lt_or_eq_of_le (Nat.le_of_lt_succ hj) with hj | rfl
  rotate_left
  · exact t_248
  rcases Nat.lt_or_eq_of_le (Nat.le_of_lt_succ hj) with hj | rfl
  rotate_left
  · exact t_246
  exact absurd hj (Nat.not_lt_zero _)
theorem ck_Plans : cOK 6 R_Plans T_Plans 6 := by
  refine ⟨rfl, ?_, ⟨fun k => ((parseFieldDescriptor (T_Plans k).2.2.1).getD .int), by decide +kernel⟩, by decide +kernel⟩
  intro w hw
  obtain ⟨j, hj, rfl⟩ := List.mem_map.mp hw
  have hj := List.mem_range.mp hj
  rcases Nat.lt_or_eq_of_le (Nat.le_of_lt_succ hj) with hj | rfl
  rotate_left
  · exact t_279
  rcases Nat.lt_or_eq_of_le (Nat.le_of_lt_succ hj) with hj | rfl
  rotate_left
  · exact t_277
  rcases Nat.lt_or_eq_of_le (Nat.le_of_lt_succ hj) with hj | rfl
  rotate_left
  · exact t_275
  rcases Nat.lt_or_eq_of_le (Nat.le_of_lt_succ hj) with hj | rfl
  rotate_left
  · exact t_273
  rcases Nat.lt_or_eq_of_le (Nat.le_of_lt_succ hj) with hj | rfl
  rotate_left
  · exact t_271
  rcases Nat.lt_or_eq_of_le (Nat.le_of_lt_succ hj) with hj | rfl
  rotate_left
  · exact t_269
  exact absurd hj (Nat.not_lt_zero _)
theorem ck_Row : cOK 7 R_Row T_Row 1 := by
  refine ⟨rfl, ?_, ⟨fun k => ((parseFieldDescriptor (T_Row k).2.2.1).getD .int), by decide +kernel⟩, by decide +kernel⟩
  intro w hw
  obtain ⟨j, hj, rfl⟩ := List.mem_map.mp hw
  have hj := List.mem_range.mp hj
  rcases Nat.lt_or_eq_of_le (Nat.le_of_lt_succ hj) with hj | rfl
  rotate_left
  · exact t_48
  exact absurd hj (Nat.not_lt_zero _)
theorem ck_Tape : cOK 8 R_Tape T_Tape 7 := by
  refine ⟨rfl, ?_, ⟨fun k => ((parseFieldDescriptor (T_Tape k).2.2.1).getD .int), by decide +kernel⟩, by decide +kernel⟩
  intro w hw
  obtain ⟨j, hj, rfl⟩ := List.mem_map.mp hw
  have hj := List.mem_range.mp hj
  rcases Nat.lt_or_eq_of_le (Nat.le_of_lt_succ hj) with hj | rfl
  rotate_left
  · exact t_71
  rcases Nat.lt_or_eq_of_le (Nat.le_of_lt_succ hj) with hj | rfl
  rotate_left
  · exact t_69
  rcases Nat.lt_or_eq_of_le (Nat.le_of_lt_succ hj) with hj | rfl
  rotate_left
  · exact t_67
  rcases Nat.lt_or_eq_of_le (Nat.le_of_lt_succ hj) with hj | rfl
  rotate_left
  · exact t_65
  rcases Nat.lt_or_eq_of_le (Nat.le_of_lt_succ hj) with hj | rfl
  rotate_left
  · exact t_63
  rcases Nat.lt_or_eq_of_le (Nat.le_of_lt_succ hj) with hj | rfl
  rotate_left
  · exact t_61
  rcases Nat.lt_or_eq_of_le (Nat.le_of_lt_succ hj) with hj | rfl
  rotate_left
  · exact t_59
  exact absurd hj (Nat.not_lt_zero _)
theorem ck_Winter : cOK 9 R_Winter T_Winter 3 := by
  refine ⟨rfl, ?_, ⟨fun k => ((parseFieldDescriptor (T_Winter k).2.2.1).getD .int), by decide +kernel⟩, by decide +kernel⟩
  intro w hw
  obtain ⟨j, hj, rfl⟩ := List.mem_map.mp hw
  have hj := List.mem_range.mp hj
  rcases Nat.lt_or_eq_of_le (Nat.le_of_lt_succ hj) with hj | rfl
  rotate_left
  · exact t_297
  rcases Nat.lt_or_eq_of_le (Nat.le_of_lt_succ hj) with hj | rfl
  rotate_left
  · exact t_295
  rcases Nat.lt_or_eq_of_le (Nat.le_of_lt_succ hj) with hj | rfl
  rotate_left
  · exact t_293
  exact absurd hj (Nat.not_lt_zero _)
theorem ck_Work : cOK 10 R_Work T_Work 7 := by
  refine ⟨rfl, ?_, ⟨fun k => ((parseFieldDescriptor (T_Work k).2.2.1).getD .int), by decide +kernel⟩, by decide +kernel⟩
  intro w hw
  obtain ⟨j, hj, rfl⟩ := List.mem_map.mp hw
  have hj := List.mem_range.mp hj
  rcases Nat.lt_or_eq_of_le (Nat.le_of_lt_succ hj) with hj | rfl
  rotate_left
  · exact t_217
  rcases Nat.lt_or_eq_of_le (Nat.le_of_lt_succ hj) with hj | rfl
  rotate_left
  · exact t_215
  rcases Nat.lt_or_eq_of_le (Nat.le_of_lt_succ hj) with hj | rfl
  rotate_left
  · exact t_213
  rcases Nat.lt_or_eq_of_le (Nat.le_of_lt_succ hj) with hj | rfl
  rotate_left
  · exact t_211
  rcases Nat.lt_or_eq_of_le (Nat.le_of_lt_succ hj) with hj | rfl
  rotate_left
  · exact t_209
  rcases Nat.lt_or_eq_of_le (Nat.le_of_lt_succ hj) with hj | rfl
  rotate_left
  · exact t_207
  rcases Nat.lt_or_eq_of_le (Nat.le_of_lt_succ hj) with hj | rfl
  rotate_left
  · exact t_205
  exact absurd hj (Nat.not_lt_zero _)
theorem ck_DL : cOK 11 R_DL T_DL 17 := by
  refine ⟨rfl, ?_, ⟨fun k => ((parseFieldDescriptor (T_DL k).2.2.1).getD .int), by decide +kernel⟩, by decide +kernel⟩
  intro w hw
  obtain ⟨j, hj, rfl⟩ := List.mem_map.mp hw
  have hj := List.mem_range.mp hj
  rcases Nat.lt_or_eq_of_le (Nat.le_of_lt_succ hj) with hj | rfl
  rotate_left
  · exact t_375
  rcases Nat.lt_or_eq_of_le (Nat.le_of_lt_succ hj) with hj | rfl
  rotate_left
  · exact t_373
  rcases Nat.lt_or_eq_of_le (Nat.le_of_lt_succ hj) with hj | rfl
  rotate_left
  · exact t_371
  rcases Nat.lt_or_eq_of_le (Nat.le_of_lt_succ hj) with hj | rfl
  rotate_left
  · exact t_369
  rcases Nat.lt_or_eq_of_le (Nat.le_of_lt_succ hj) with hj | rfl
  rotate_left
  · exact t_367
  rcases Nat.lt_or_eq_of_le (Nat.le_of_lt_succ hj) with hj | rfl
  rotate_left
  · exact t_365
  rcases Nat.lt_or_eq_of_le (Nat.le_of_lt_succ hj) with hj | rfl
  rotate_left
  · exact t_363
  rcases Nat.lt_or_eq_of_le (Nat.le_of_lt_succ hj) with hj | rfl
  rotate_left
  · exact t_361
  rcases Nat.lt_or_eq_of_le (Nat.le_of_lt_succ hj) with hj | rfl
  rotate_left
  · exact t_359
  rcases Nat.lt_or_eq_of_le (Nat.le_of_lt_succ hj) with hj | rfl
  rotate_left
  · exact t_357
  rcases Nat.lt_or_eq_of_le (Nat.le_of_lt_succ hj) with hj | rfl
  rotate_left
  · exact t_355
  rcases Nat.lt_or_eq_of_le (Nat.le_of_lt_succ hj) with hj | rfl
  rotate_left
  · exact t_353
  rcases Nat.lt_or_eq_of_le (Nat.le_of_lt_succ hj) with hj | rfl
  rotate_left
  · exact t_351
  rcases Nat.lt_or_eq_of_le (Nat.le_of_lt_succ hj) with hj | rfl
  rotate_left
  · exact t_349
  rcases Nat.lt_or_eq_of_le (Nat.le_of_lt_succ hj) with hj | rfl
  rotate_left
  · exact t_347
  rcases Nat.lt_or_eq_of_le (Nat.le_of_lt_succ hj) with hj | rfl
  rotate_left
  · exact t_345
  rcases Nat.lt_or_eq_of_le (Nat.le_of_lt_succ hj) with hj | rfl
  rotate_left
  · exact t_343
  exact absurd hj (Nat.not_lt_zero _)
theorem ck_Mo : cOK 12 R_Mo T_Mo 50 := by
  refine ⟨rfl, ?_, ⟨fun k => ((parseFieldDescriptor (T_Mo k).2.2.1).getD .int), by decide +kernel⟩, by decide +kernel⟩
  intro w hw
  obtain ⟨j, hj, rfl⟩ := List.mem_map.mp hw
  have hj := List.mem_range.mp hj
  rcases Nat.lt_or_eq_of_le (Nat.le_of_lt_succ hj) with hj | rfl
  rotate_left
  · exact t_1566
  rcases Nat.lt_or_eq_of_le (Nat.le_of_lt_succ hj) with hj | rfl
  rotate_left
  · exact t_1564
  rcases Nat.lt_or_eq_of_le (Nat.le_of_lt_succ hj) with hj | rfl
  rotate_left
  · exact t_1562
  rcases Nat.lt_or_eq_of_le (Nat.le_of_lt_succ hj) with hj | rfl
  rotate_left
  · exact t_1560
  rcases Nat.lt_or_eq_of_le (Nat.le_of_lt_succ hj) with hj | rfl
  rotate_left
  · exact t_1558
  rcases Nat.lt_or_eq_of_le (Nat.le_of_lt_succ hj) with hj | rfl
  rotate_left
  · exact t_1556
  rcases Nat.lt_or_eq_of_le (Nat.le_of_lt_succ hj) with hj | rfl
  rotate_left
  · exact t_1554
  rcases Nat.lt_or_eq_of_le (Nat.le_of_lt_succ hj) with hj | rfl
  rotate_left
  · exact t_1552
  rcases Nat.lt_or_eq_of_le (Nat.le_of_lt_succ hj) with hj | rfl
  rotate_left
  · exact t_1550
  rcases Nat.lt_or_eq_of_le (Nat.le_of_lt_succ hj) with hj | rfl
  rotate_left
  · exact t_1548
  rcases Nat.lt_or_eq_of_le (Nat.le_of_lt_succ hj) with hj | rfl
  rotate_left
  · exact t_1546
  rcases Nat.lt_or_eq_of_le (Nat.le_of_lt_succ hj) with hj | rfl
  rotate_left
  · exact t_1544
  rcases Nat.lt_or_eq_of_le (Nat.le_of_lt_succ hj) with hj | rfl
  rotate_left
  · exact t_1542
  rcases Nat.lt_or_eq_of_le (Nat.le_of_lt_succ hj) with hj | rfl
  rotate_left
  · exact t_1540
  rcases Nat.lt_or_eq_of_le (Nat.le_of_lt_succ hj) with hj | rfl
  rotate_left
  · exact t_1538
  rcases Nat.lt_or_eq_of_le (Nat.le_of_lt_succ hj) with hj | rfl
  rotate_left
  · exact t_1536
  rcases Nat.lt_or_eq_of_le (Nat.le_of_lt_succ hj) with hj | rfl
  rotate_left
  · exact t_1534
  rcases Nat.lt_or_eq_of_le (Nat.le_of_lt_succ hj) with hj | rfl
  rotate_left
  · exact t_1532
  rcases Nat.lt_or_eq_of_le (Nat.le_of_lt_succ hj) with hj | rfl
  rotate_left
  · exact t_1530
  rcases Nat.lt_or_eq_of_le (Nat.le_of_lt_succ hj) with hj | rfl
  rotate_left
  · exact t_1528
  rcases Nat.lt_or_eq_of_le (Nat.le_of_lt_succ hj) with hj | rfl
  rotate_left
  · exact t_1526
  rcases Nat.lt_or_eq_of_le (Nat.le_of_lt_succ hj) with hj | rfl
  rotate_left
  · exact t_1524
  rcases Nat.lt_or_eq_of_le (Nat.le_of_lt_succ hj) with hj | rfl
  rotate_left
  · exact t_1522
  rcases Nat.lt_or_eq_of_le (Nat.le_of_lt_succ hj) with hj | rfl
  rotate_left
  · exact t_1520
  rcases Nat.lt_or_eq_of_le (Nat.le_of_lt_succ hj) with hj | rfl
  rotate_left
  · exact t_1518
  rcases Nat.lt_or_eq_of_le (Nat.le_of_lt_succ hj) with hj | rfl
  rotate_left
  · exact t_1516
  rcases Nat.lt_or_eq_of_le (Nat.le_of_lt_succ hj) with hj | rfl
  rotate_left
  · exact t_1514
  rcases Nat.lt_or_eq_of_le (Nat.le_of_lt_succ hj) with hj | rfl
  rotate_left
  · exact t_1512
  rcases Nat.lt_or_eq_of_le (Nat.le_of_lt_succ hj) with hj | rfl
  rotate_left
  · exact t_1510
  rcases Nat.lt_or_eq_of_le (Nat.le_of_lt_succ hj) with hj | rfl
  rotate_left
  · exact t_1508
  rcases Nat.lt_or_eq_of_le (Nat.le_of_lt_succ hj) with hj | rfl
  rotate_left
  · exact t_1506
  rcases Nat.lt_or_eq_of_le (Nat.le_of_lt_succ hj) with hj | rfl
  rotate_left
  · exact t_1504
  rcases Nat.lt_or_eq_of_le (Nat.le_of_lt_succ hj) with hj | rfl
  rotate_left
  · exact t_1502
  rcases Nat.lt_or_eq_of_le (Nat.le_of_lt_succ hj) with hj | rfl
  rotate_left
  · exact t_1500
  rcases Nat.lt_or_eq_of_le (Nat.le_of_lt_succ hj) with hj | rfl
  rotate_left
  · exact t_1498
  rcases Nat.lt_or_eq_of_le (Nat.le_of_lt_succ hj) with hj | rfl
  rotate_left
  · exact t_1496
  rcases Nat.lt_or_eq_of_le (Nat.le_of_lt_succ hj) with hj | rfl
  rotate_left
  · exact t_1494
  rcases Nat.lt_or_eq_of_le (Nat.le_of_lt_succ hj) with hj | rfl
  rotate_left
  · exact t_1492
  rcases Nat.lt_or_eq_of_le (Nat.le_of_lt_succ hj) with hj | rfl
  rotate_left
  · exact t_1490
  rcases Nat.lt_or_eq_of_le (Nat.le_of_lt_succ hj) with hj | rfl
  rotate_left
  · exact t_1488
  rcases Nat.lt_or_eq_of_le (Nat.le_of_lt_succ hj) with hj | rfl
  rotate_left
  · exact t_1486
  rcases Nat.lt_or_eq_of_le (Nat.le_of_lt_succ hj) with hj | rfl
  rotate_left
  · exact t_1484
  rcases Nat.lt_or_eq_of_le (Nat.le_of_lt_succ hj) with hj | rfl
  rotate_left
  · exact t_1482
  rcases Nat.lt_or_eq_of_le (Nat.le_of_lt_succ hj) with hj | rfl
  rotate_left
  · exact t_1480
  rcases Nat.lt_or_eq_of_le (Nat.le_of_lt_succ hj) with hj | rfl
  rotate_left
  · exact t_1478
  rcases Nat.lt_or_eq_of_le (Nat.le_of_lt_succ hj) with hj | rfl
  rotate_left
  · exact t_1476
  rcases Nat.lt_or_eq_of_le (Nat.le_of_lt_succ hj) with hj | rfl
  rotate_left
  · exact t_1474
  rcases Nat.lt_or_eq_of_le (Nat.le_of_lt_succ hj) with hj | rfl
  rotate_left
  · exact t_1472
  rcases Nat.lt_or_eq_of_le (Nat.le_of_lt_succ hj) with hj | rfl
  rotate_left
  · exact t_1470
  rcases Nat.lt_or_eq_of_le (Nat.le_of_lt_succ hj) with hj | rfl
  rotate_left
  · exact t_1468
  exact absurd hj (Nat.not_lt_zero _)
abbrev y_Coast_init : MethodName := ⟨"DonkeyLight$Coast", "<init>", "()V"⟩
theorem mo_Coast_init : mOK y_Coast_init prog_2_method_1_code 1 none 0 := ⟨t_78, t_5, ⟨by decide, by decide, by decide +kernel⟩, by decide⟩
abbrev y_Coast_become : MethodName := ⟨"DonkeyLight$Coast", "become", "(LDonkeyLight$Coast;)V"⟩
theorem mo_Coast_become : mOK y_Coast_become prog_2_method_2_code 2 none 1 := ⟨t_762, t_5, ⟨by decide, by decide, by decide +kernel⟩, by decide⟩
theorem mv_Coast_become : mV y_Coast_become := ⟨t_760, t_761⟩
abbrev y_Coast_sight : MethodName := ⟨"DonkeyLight$Coast", "sight", "()I"⟩
theorem mo_Coast_sight : mOK y_Coast_sight prog_2_method_3_code 1 (some Jvm.ClassFile.FieldType.int) 0 := ⟨t_448, t_5, ⟨by decide, by decide, by decide +kernel⟩, by decide⟩
theorem mv_Coast_sight : mV y_Coast_sight := ⟨t_446, t_447⟩
abbrev y_Coast_shipNumber : MethodName := ⟨"DonkeyLight$Coast", "shipNumber", "(II)I"⟩
theorem mo_Coast_shipNumber : mOK y_Coast_shipNumber prog_2_method_4_code 3 (some Jvm.ClassFile.FieldType.int) 2 := ⟨t_1038, t_5, ⟨by decide, by decide, by decide +kernel⟩, by decide⟩
theorem mv_Coast_shipNumber : mV y_Coast_shipNumber := ⟨t_1036, t_1037⟩
abbrev y_Coast_readFrom : MethodName := ⟨"DonkeyLight$Coast", "readFrom", "(LDonkeyLight$Tape;)V"⟩
theorem mo_Coast_readFrom : mOK y_Coast_readFrom prog_2_method_5_code 3 none 1 := ⟨t_645, t_5, ⟨by decide, by decide, by decide +kernel⟩, by decide⟩
theorem mv_Coast_readFrom : mV y_Coast_readFrom := ⟨t_643, t_644⟩
abbrev y_Coast_readClause : MethodName := ⟨"DonkeyLight$Coast", "readClause", "(LDonkeyLight$Tape;I)V"⟩
theorem mo_Coast_readClause : mOK y_Coast_readClause prog_2_method_6_code 4 none 2 := ⟨t_657, t_5, ⟨by decide, by decide, by decide +kernel⟩, by decide⟩
theorem mv_Coast_readClause : mV y_Coast_readClause := ⟨t_656, u_6⟩
abbrev y_Coast_mostOf : MethodName := ⟨"DonkeyLight$Coast", "mostOf", "(I)I"⟩
theorem mo_Coast_mostOf : mOK y_Coast_mostOf prog_2_method_7_code 1 (some Jvm.ClassFile.FieldType.int) 1 := ⟨t_725, t_5, ⟨by decide, by decide, by decide +kernel⟩, by decide⟩
abbrev y_Coast_readNumbers : MethodName := ⟨"DonkeyLight$Coast", "readNumbers", "(LDonkeyLight$Tape;II)V"⟩
theorem mo_Coast_readNumbers : mOK y_Coast_readNumbers prog_2_method_8_code 4 none 3 := ⟨t_730, t_5, ⟨by decide, by decide, by decide +kernel⟩, by decide⟩
theorem mv_Coast_readNumbers : mV y_Coast_readNumbers := ⟨t_729, u_9⟩
abbrev y_Coast_strikes : MethodName := ⟨"DonkeyLight$Coast", "strikes", "(II)Z"⟩
theorem mo_Coast_strikes : mOK y_Coast_strikes prog_2_method_9_code 4 (some Jvm.ClassFile.FieldType.boolean) 2 := ⟨t_483, t_5, ⟨by decide, by decide, by decide +kernel⟩, by decide⟩
theorem mv_Coast_strikes : mV y_Coast_strikes := ⟨t_481, t_482⟩
abbrev y_Coast_alive : MethodName := ⟨"DonkeyLight$Coast", "alive", "(II)I"⟩
theorem mo_Coast_alive : mOK y_Coast_alive prog_2_method_10_code 3 (some Jvm.ClassFile.FieldType.int) 2 := ⟨t_916, t_5, ⟨by decide, by decide, by decide +kernel⟩, by decide⟩
theorem mv_Coast_alive : mV y_Coast_alive := ⟨t_914, t_915⟩
abbrev y_Coast_parishCargo : MethodName := ⟨"DonkeyLight$Coast", "parishCargo", "(II)I"⟩
theorem mo_Coast_parishCargo : mOK y_Coast_parishCargo prog_2_method_11_code 3 (some Jvm.ClassFile.FieldType.int) 2 := ⟨t_911, t_5, ⟨by decide, by decide, by decide +kernel⟩, by decide⟩
theorem mv_Coast_parishCargo : mV y_Coast_parishCargo := ⟨t_909, t_910⟩
abbrev y_Coast_allReefs : MethodName := ⟨"DonkeyLight$Coast", "allReefs", "()I"⟩
theorem mo_Coast_allReefs : mOK y_Coast_allReefs prog_2_method_12_code 3 (some Jvm.ClassFile.FieldType.int) 0 := ⟨t_1315, t_5, ⟨by decide, by decide, by decide +kernel⟩, by decide⟩
theorem mv_Coast_allReefs : mV y_Coast_allReefs := ⟨t_1313, t_1314⟩
abbrev y_Coast_longestReefFirst : MethodName := ⟨"DonkeyLight$Coast", "longestReefFirst", "()I"⟩
theorem mo_Coast_longestReefFirst : mOK y_Coast_longestReefFirst prog_2_method_13_code 5 (some Jvm.ClassFile.FieldType.int) 0 := ⟨t_1319, t_5, ⟨by decide, by decide, by decide +kernel⟩, by decide⟩
theorem mv_Coast_longestReefFirst : mV y_Coast_longestReefFirst := ⟨t_1317, t_1318⟩
abbrev y_Coast_reefRowFrom : MethodName := ⟨"DonkeyLight$Coast", "reefRowFrom", "(I)I"⟩
theorem mo_Coast_reefRowFrom : mOK y_Coast_reefRowFrom prog_2_method_14_code 4 (some Jvm.ClassFile.FieldType.int) 1 := ⟨t_1323, t_5, ⟨by decide, by decide, by decide +kernel⟩, by decide⟩
theorem mv_Coast_reefRowFrom : mV y_Coast_reefRowFrom := ⟨t_1321, t_1322⟩
abbrev y_Coast_carriersHave : MethodName := ⟨"DonkeyLight$Coast", "carriersHave", "(II)I"⟩
theorem mo_Coast_carriersHave : mOK y_Coast_carriersHave prog_2_method_15_code 3 (some Jvm.ClassFile.FieldType.int) 2 := ⟨t_1250, t_5, ⟨by decide, by decide, by decide +kernel⟩, by decide⟩
theorem mv_Coast_carriersHave : mV y_Coast_carriersHave := ⟨t_1248, t_1249⟩
abbrev y_Coast_rests : MethodName := ⟨"DonkeyLight$Coast", "rests", "()I"⟩
theorem mo_Coast_rests : mOK y_Coast_rests prog_2_method_16_code 4 (some Jvm.ClassFile.FieldType.int) 0 := ⟨t_1242, t_5, ⟨by decide, by decide, by decide +kernel⟩, by decide⟩
theorem mv_Coast_rests : mV y_Coast_rests := ⟨t_1240, t_1241⟩
abbrev y_Coast_firstRest : MethodName := ⟨"DonkeyLight$Coast", "firstRest", "()I"⟩
theorem mo_Coast_firstRest : mOK y_Coast_firstRest prog_2_method_17_code 3 (some Jvm.ClassFile.FieldType.int) 0 := ⟨t_1255, t_5, ⟨by decide, by decide, by decide +kernel⟩, by decide⟩
theorem mv_Coast_firstRest : mV y_Coast_firstRest := ⟨t_1253, t_1254⟩
abbrev y_Coast_isRest : MethodName := ⟨"DonkeyLight$Coast", "isRest", "(II)Z"⟩
theorem mo_Coast_isRest : mOK y_Coast_isRest prog_2_method_18_code 7 (some Jvm.ClassFile.FieldType.boolean) 2 := ⟨t_1246, t_5, ⟨by decide, by decide, by decide +kernel⟩, by decide⟩
theorem mv_Coast_isRest : mV y_Coast_isRest := ⟨t_1245, u_27⟩
abbrev y_Coast_shareOf : MethodName := ⟨"DonkeyLight$Coast", "shareOf", "(II)I"⟩
theorem mo_Coast_shareOf : mOK y_Coast_shareOf prog_2_method_19_code 9 (some Jvm.ClassFile.FieldType.int) 2 := ⟨t_1267, t_5, ⟨by decide, by decide, by decide +kernel⟩, by decide⟩
theorem mv_Coast_shareOf : mV y_Coast_shareOf := ⟨t_1265, t_1266⟩
abbrev y_Coast_markMadeRows : MethodName := ⟨"DonkeyLight$Coast", "markMadeRows", "(ILDonkeyLight$Row;)V"⟩
theorem mo_Coast_markMadeRows : mOK y_Coast_markMadeRows prog_2_method_20_code 6 none 2 := ⟨t_506, t_5, ⟨by decide, by decide, by decide +kernel⟩, by decide⟩
theorem mv_Coast_markMadeRows : mV y_Coast_markMadeRows := ⟨t_504, t_505⟩
abbrev y_Coast_rowFrom : MethodName := ⟨"DonkeyLight$Coast", "rowFrom", "(III)I"⟩
theorem mo_Coast_rowFrom : mOK y_Coast_rowFrom prog_2_method_21_code 5 (some Jvm.ClassFile.FieldType.int) 3 := ⟨t_510, t_5, ⟨by decide, by decide, by decide +kernel⟩, by decide⟩
abbrev y_FlashLog_init : MethodName := ⟨"DonkeyLight$FlashLog", "<init>", "()V"⟩
theorem mo_FlashLog_init : mOK y_FlashLog_init prog_3_method_1_code 1 none 0 := ⟨t_179, t_7, ⟨by decide, by decide, by decide +kernel⟩, by decide⟩
abbrev y_FlashLog_reset : MethodName := ⟨"DonkeyLight$FlashLog", "reset", "()V"⟩
theorem mo_FlashLog_reset : mOK y_FlashLog_reset prog_3_method_2_code 1 none 0 := ⟨t_772, t_7, ⟨by decide, by decide, by decide +kernel⟩, by decide⟩
theorem mv_FlashLog_reset : mV y_FlashLog_reset := ⟨t_770, t_771⟩
abbrev y_FlashLog_become : MethodName := ⟨"DonkeyLight$FlashLog", "become", "(LDonkeyLight$FlashLog;)V"⟩
theorem mo_FlashLog_become : mOK y_FlashLog_become prog_3_method_3_code 2 none 1 := ⟨t_962, t_7, ⟨by decide, by decide, by decide +kernel⟩, by decide⟩
theorem mv_FlashLog_become : mV y_FlashLog_become := ⟨t_960, t_961⟩
abbrev y_FlashLog_lines : MethodName := ⟨"DonkeyLight$FlashLog", "lines", "()I"⟩
theorem mo_FlashLog_lines : mOK y_FlashLog_lines prog_3_method_4_code 1 (some Jvm.ClassFile.FieldType.int) 0 := ⟨t_967, t_7, ⟨by decide, by decide, by decide +kernel⟩, by decide⟩
theorem mv_FlashLog_lines : mV y_FlashLog_lines := ⟨t_965, t_966⟩
abbrev y_FlashLog_readFrom : MethodName := ⟨"DonkeyLight$FlashLog", "readFrom", "(LDonkeyLight$Tape;)V"⟩
theorem mo_FlashLog_readFrom : mOK y_FlashLog_readFrom prog_3_method_5_code 3 none 1 := ⟨t_945, t_7, ⟨by decide, by decide, by decide +kernel⟩, by decide⟩
theorem mv_FlashLog_readFrom : mV y_FlashLog_readFrom := ⟨t_943, t_944⟩
abbrev y_FlashLog_readLine : MethodName := ⟨"DonkeyLight$FlashLog", "readLine", "(LDonkeyLight$Tape;)V"⟩
theorem mo_FlashLog_readLine : mOK y_FlashLog_readLine prog_3_method_6_code 3 none 1 := ⟨t_952, t_7, ⟨by decide, by decide, by decide +kernel⟩, by decide⟩
theorem mv_FlashLog_readLine : mV y_FlashLog_readLine := ⟨t_951, u_19⟩
abbrev y_FlashLog_isFit : MethodName := ⟨"DonkeyLight$FlashLog", "isFit", "(II)Z"⟩
theorem mo_FlashLog_isFit : mOK y_FlashLog_isFit prog_3_method_7_code 5 (some Jvm.ClassFile.FieldType.boolean) 2 := ⟨t_1185, t_7, ⟨by decide, by decide, by decide +kernel⟩, by decide⟩
theorem mv_FlashLog_isFit : mV y_FlashLog_isFit := ⟨t_1184, u_26⟩
abbrev y_FlashLog_fitting : MethodName := ⟨"DonkeyLight$FlashLog", "fitting", "()I"⟩
theorem mo_FlashLog_fitting : mOK y_FlashLog_fitting prog_3_method_8_code 4 (some Jvm.ClassFile.FieldType.int) 0 := ⟨t_1181, t_7, ⟨by decide, by decide, by decide +kernel⟩, by decide⟩
theorem mv_FlashLog_fitting : mV y_FlashLog_fitting := ⟨t_1179, t_1180⟩
abbrev y_FlashLog_firstFit : MethodName := ⟨"DonkeyLight$FlashLog", "firstFit", "()I"⟩
theorem mo_FlashLog_firstFit : mOK y_FlashLog_firstFit prog_3_method_9_code 3 (some Jvm.ClassFile.FieldType.int) 0 := ⟨t_1190, t_7, ⟨by decide, by decide, by decide +kernel⟩, by decide⟩
theorem mv_FlashLog_firstFit : mV y_FlashLog_firstFit := ⟨t_1188, t_1189⟩
abbrev y_FlashLog_bestMinute : MethodName := ⟨"DonkeyLight$FlashLog", "bestMinute", "()I"⟩
theorem mo_FlashLog_bestMinute : mOK y_FlashLog_bestMinute prog_3_method_10_code 5 (some Jvm.ClassFile.FieldType.int) 0 := ⟨t_1201, t_7, ⟨by decide, by decide, by decide +kernel⟩, by decide⟩
theorem mv_FlashLog_bestMinute : mV y_FlashLog_bestMinute := ⟨t_1199, t_1200⟩
abbrev y_FlashLog_leftAtWorst : MethodName := ⟨"DonkeyLight$FlashLog", "leftAtWorst", "(I)I"⟩
theorem mo_FlashLog_leftAtWorst : mOK y_FlashLog_leftAtWorst prog_3_method_11_code 6 (some Jvm.ClassFile.FieldType.int) 1 := ⟨t_1205, t_7, ⟨by decide, by decide, by decide +kernel⟩, by decide⟩
theorem mv_FlashLog_leftAtWorst : mV y_FlashLog_leftAtWorst := ⟨t_1203, t_1204⟩
abbrev y_History_init : MethodName := ⟨"DonkeyLight$History", "<init>", "()V"⟩
theorem mo_History_init : mOK y_History_init prog_4_method_1_code 1 none 0 := ⟨t_304, t_13, ⟨by decide, by decide, by decide +kernel⟩, by decide⟩
abbrev y_History_reset : MethodName := ⟨"DonkeyLight$History", "reset", "()V"⟩
theorem mo_History_reset : mOK y_History_reset prog_4_method_2_code 1 none 0 := ⟨t_777, t_13, ⟨by decide, by decide, by decide +kernel⟩, by decide⟩
theorem mv_History_reset : mV y_History_reset := ⟨t_775, t_776⟩
abbrev y_History_works : MethodName := ⟨"DonkeyLight$History", "works", "()I"⟩
theorem mo_History_works : mOK y_History_works prog_4_method_3_code 1 (some Jvm.ClassFile.FieldType.int) 0 := ⟨t_406, t_13, ⟨by decide, by decide, by decide +kernel⟩, by decide⟩
theorem mv_History_works : mV y_History_works := ⟨t_404, t_405⟩
abbrev y_History_images : MethodName := ⟨"DonkeyLight$History", "images", "()I"⟩
theorem mo_History_images : mOK y_History_images prog_4_method_4_code 1 (some Jvm.ClassFile.FieldType.int) 0 := ⟨t_526, t_13, ⟨by decide, by decide, by decide +kernel⟩, by decide⟩
theorem mv_History_images : mV y_History_images := ⟨t_524, t_525⟩
abbrev y_History_keepWork : MethodName := ⟨"DonkeyLight$History", "keepWork", "(LDonkeyLight$Nights;)V"⟩
theorem mo_History_keepWork : mOK y_History_keepWork prog_4_method_5_code 2 none 1 := ⟨t_864, t_13, ⟨by decide, by decide, by decide +kernel⟩, by decide⟩
theorem mv_History_keepWork : mV y_History_keepWork := ⟨t_862, t_863⟩
abbrev y_History_undoWork : MethodName := ⟨"DonkeyLight$History", "undoWork", "(LDonkeyLight$Nights;)I"⟩
theorem mo_History_undoWork : mOK y_History_undoWork prog_4_method_6_code 2 (some Jvm.ClassFile.FieldType.int) 1 := ⟨t_410, t_13, ⟨by decide, by decide, by decide +kernel⟩, by decide⟩
theorem mv_History_undoWork : mV y_History_undoWork := ⟨t_408, t_409⟩
abbrev y_History_keepImage : MethodName := ⟨"DonkeyLight$History", "keepImage", "(LDonkeyLight$Nights;)I"⟩
theorem mo_History_keepImage : mOK y_History_keepImage prog_4_method_7_code 3 (some Jvm.ClassFile.FieldType.int) 1 := ⟨t_530, t_13, ⟨by decide, by decide, by decide +kernel⟩, by decide⟩
theorem mv_History_keepImage : mV y_History_keepImage := ⟨t_528, t_529⟩
abbrev y_History_takeImage : MethodName := ⟨"DonkeyLight$History", "takeImage", "(LDonkeyLight$Nights;)I"⟩
theorem mo_History_takeImage : mOK y_History_takeImage prog_4_method_8_code 3 (some Jvm.ClassFile.FieldType.int) 1 := ⟨t_539, t_13, ⟨by decide, by decide, by decide +kernel⟩, by decide⟩
theorem mv_History_takeImage : mV y_History_takeImage := ⟨t_537, t_538⟩
abbrev y_Law_init : MethodName := ⟨"DonkeyLight$Law", "<init>", "()V"⟩
theorem mo_Law_init : mOK y_Law_init prog_5_method_1_code 1 none 0 := ⟨t_143, t_6, ⟨by decide, by decide, by decide +kernel⟩, by decide⟩
abbrev y_Law_reset : MethodName := ⟨"DonkeyLight$Law", "reset", "()V"⟩
theorem mo_Law_reset : mOK y_Law_reset prog_5_method_2_code 1 none 0 := ⟨t_150, t_6, ⟨by decide, by decide, by decide +kernel⟩, by decide⟩
theorem mv_Law_reset : mV y_Law_reset := ⟨t_148, t_149⟩
abbrev y_Law_become : MethodName := ⟨"DonkeyLight$Law", "become", "(LDonkeyLight$Law;)V"⟩
theorem mo_Law_become : mOK y_Law_become prog_5_method_3_code 2 none 1 := ⟨t_822, t_6, ⟨by decide, by decide, by decide +kernel⟩, by decide⟩
theorem mv_Law_become : mV y_Law_become := ⟨t_820, t_821⟩
abbrev y_Law_tellNight : MethodName := ⟨"DonkeyLight$Law", "tellNight", "(II)V"⟩
theorem mo_Law_tellNight : mOK y_Law_tellNight prog_5_method_4_code 3 none 2 := ⟨t_440, t_6, ⟨by decide, by decide, by decide +kernel⟩, by decide⟩
theorem mv_Law_tellNight : mV y_Law_tellNight := ⟨t_438, t_439⟩
abbrev y_Law_tellShip : MethodName := ⟨"DonkeyLight$Law", "tellShip", "(LDonkeyLight$Coast;IIIII)V"⟩
theorem mo_Law_tellShip : mOK y_Law_tellShip prog_5_method_5_code 7 none 6 := ⟨t_488, t_6, ⟨by decide, by decide, by decide +kernel⟩, by decide⟩
theorem mv_Law_tellShip : mV y_Law_tellShip := ⟨t_486, t_487⟩
abbrev y_Law_steersIn : MethodName := ⟨"DonkeyLight$Law", "steersIn", "()Z"⟩
theorem mo_Law_steersIn : mOK y_Law_steersIn prog_5_method_6_code 4 (some Jvm.ClassFile.FieldType.boolean) 0 := ⟨t_493, t_6, ⟨by decide, by decide, by decide +kernel⟩, by decide⟩
theorem mv_Law_steersIn : mV y_Law_steersIn := ⟨t_491, t_492⟩
abbrev y_Law_joined : MethodName := ⟨"DonkeyLight$Law", "joined", "(III)I"⟩
theorem mo_Law_joined : mOK y_Law_joined prog_5_method_7_code 3 (some Jvm.ClassFile.FieldType.int) 3 := ⟨t_496, t_6, ⟨by decide, by decide, by decide +kernel⟩, by decide⟩
abbrev y_Law_readFrom : MethodName := ⟨"DonkeyLight$Law", "readFrom", "(LDonkeyLight$Tape;)V"⟩
theorem mo_Law_readFrom : mOK y_Law_readFrom prog_5_method_8_code 2 none 1 := ⟨t_794, t_6, ⟨by decide, by decide, by decide +kernel⟩, by decide⟩
theorem mv_Law_readFrom : mV y_Law_readFrom := ⟨t_792, t_793⟩
abbrev y_Law_emit : MethodName := ⟨"DonkeyLight$Law", "emit", "(II)V"⟩
theorem mo_Law_emit : mOK y_Law_emit prog_5_method_9_code 3 none 2 := ⟨t_154, t_6, ⟨by decide, by decide, by decide +kernel⟩, by decide⟩
theorem mv_Law_emit : mV y_Law_emit := ⟨t_153, u_0⟩
abbrev y_Law_readSum : MethodName := ⟨"DonkeyLight$Law", "readSum", "(LDonkeyLight$Tape;I)V"⟩
theorem mo_Law_readSum : mOK y_Law_readSum prog_5_method_10_code 5 none 2 := ⟨t_798, t_6, ⟨by decide, by decide, by decide +kernel⟩, by decide⟩
theorem mv_Law_readSum : mV y_Law_readSum := ⟨t_797, u_10⟩
abbrev y_Law_readProduct : MethodName := ⟨"DonkeyLight$Law", "readProduct", "(LDonkeyLight$Tape;I)V"⟩
theorem mo_Law_readProduct : mOK y_Law_readProduct prog_5_method_11_code 5 none 2 := ⟨t_802, t_6, ⟨by decide, by decide, by decide +kernel⟩, by decide⟩
theorem mv_Law_readProduct : mV y_Law_readProduct := ⟨t_801, u_11⟩
abbrev y_Law_readPart : MethodName := ⟨"DonkeyLight$Law", "readPart", "(LDonkeyLight$Tape;I)V"⟩
theorem mo_Law_readPart : mOK y_Law_readPart prog_5_method_12_code 4 none 2 := ⟨t_806, t_6, ⟨by decide, by decide, by decide +kernel⟩, by decide⟩
theorem mv_Law_readPart : mV y_Law_readPart := ⟨t_805, u_12⟩
abbrev y_Law_mayOpen : MethodName := ⟨"DonkeyLight$Law", "mayOpen", "(LDonkeyLight$Tape;I)Z"⟩
theorem mo_Law_mayOpen : mOK y_Law_mayOpen prog_5_method_13_code 2 (some Jvm.ClassFile.FieldType.boolean) 2 := ⟨t_813, t_6, ⟨by decide, by decide, by decide +kernel⟩, by decide⟩
abbrev y_Nights_init : MethodName := ⟨"DonkeyLight$Nights", "<init>", "()V"⟩
theorem mo_Nights_init : mOK y_Nights_init prog_6_method_1_code 1 none 0 := ⟨t_224, t_9, ⟨by decide, by decide, by decide +kernel⟩, by decide⟩
abbrev y_Nights_reset : MethodName := ⟨"DonkeyLight$Nights", "reset", "(LDonkeyLight$Coast;)V"⟩
theorem mo_Nights_reset : mOK y_Nights_reset prog_6_method_2_code 3 none 1 := ⟨t_781, t_9, ⟨by decide, by decide, by decide +kernel⟩, by decide⟩
theorem mv_Nights_reset : mV y_Nights_reset := ⟨t_779, t_780⟩
abbrev y_Nights_get : MethodName := ⟨"DonkeyLight$Nights", "get", "(I)I"⟩
theorem mo_Nights_get : mOK y_Nights_get prog_6_method_3_code 2 (some Jvm.ClassFile.FieldType.int) 1 := ⟨t_435, t_9, ⟨by decide, by decide, by decide +kernel⟩, by decide⟩
theorem mv_Nights_get : mV y_Nights_get := ⟨t_433, t_434⟩
abbrev y_Nights_forgetWrecks : MethodName := ⟨"DonkeyLight$Nights", "forgetWrecks", "()V"⟩
theorem mo_Nights_forgetWrecks : mOK y_Nights_forgetWrecks prog_6_method_4_code 1 none 0 := ⟨t_1359, t_9, ⟨by decide, by decide, by decide +kernel⟩, by decide⟩
theorem mv_Nights_forgetWrecks : mV y_Nights_forgetWrecks := ⟨t_1357, t_1358⟩
abbrev y_Nights_burns : MethodName := ⟨"DonkeyLight$Nights", "burns", "(I)Z"⟩
theorem mo_Nights_burns : mOK y_Nights_burns prog_6_method_5_code 2 (some Jvm.ClassFile.FieldType.boolean) 1 := ⟨t_889, t_9, ⟨by decide, by decide, by decide +kernel⟩, by decide⟩
theorem mv_Nights_burns : mV y_Nights_burns := ⟨t_887, t_888⟩
abbrev y_Nights_passed : MethodName := ⟨"DonkeyLight$Nights", "passed", "(I)Z"⟩
theorem mo_Nights_passed : mOK y_Nights_passed prog_6_method_6_code 2 (some Jvm.ClassFile.FieldType.boolean) 1 := ⟨t_897, t_9, ⟨by decide, by decide, by decide +kernel⟩, by decide⟩
theorem mv_Nights_passed : mV y_Nights_passed := ⟨t_895, t_896⟩
abbrev y_Nights_setBurning : MethodName := ⟨"DonkeyLight$Nights", "setBurning", "(IZ)Z"⟩
theorem mo_Nights_setBurning : mOK y_Nights_setBurning prog_6_method_7_code 3 (some Jvm.ClassFile.FieldType.boolean) 2 := ⟨t_885, t_9, ⟨by decide, by decide, by decide +kernel⟩, by decide⟩
theorem mv_Nights_setBurning : mV y_Nights_setBurning := ⟨t_883, t_884⟩
abbrev y_Nights_lead : MethodName := ⟨"DonkeyLight$Nights", "lead", "(II)Z"⟩
theorem mo_Nights_lead : mOK y_Nights_lead prog_6_method_8_code 3 (some Jvm.ClassFile.FieldType.boolean) 2 := ⟨t_893, t_9, ⟨by decide, by decide, by decide +kernel⟩, by decide⟩
theorem mv_Nights_lead : mV y_Nights_lead := ⟨t_891, t_892⟩
abbrev y_Nights_fogComes : MethodName := ⟨"DonkeyLight$Nights", "fogComes", "()Z"⟩
theorem mo_Nights_fogComes : mOK y_Nights_fogComes prog_6_method_9_code 1 (some Jvm.ClassFile.FieldType.boolean) 0 := ⟨t_921, t_9, ⟨by decide, by decide, by decide +kernel⟩, by decide⟩
theorem mv_Nights_fogComes : mV y_Nights_fogComes := ⟨t_919, t_920⟩
abbrev y_Nights_nextNight : MethodName := ⟨"DonkeyLight$Nights", "nextNight", "()Z"⟩
theorem mo_Nights_nextNight : mOK y_Nights_nextNight prog_6_method_10_code 1 (some Jvm.ClassFile.FieldType.boolean) 0 := ⟨t_926, t_9, ⟨by decide, by decide, by decide +kernel⟩, by decide⟩
theorem mv_Nights_nextNight : mV y_Nights_nextNight := ⟨t_924, t_925⟩
abbrev y_Nights_hasPassed : MethodName := ⟨"DonkeyLight$Nights", "hasPassed", "(LDonkeyLight$Coast;II)V"⟩
theorem mo_Nights_hasPassed : mOK y_Nights_hasPassed prog_6_method_11_code 5 none 3 := ⟨t_907, t_9, ⟨by decide, by decide, by decide +kernel⟩, by decide⟩
theorem mv_Nights_hasPassed : mV y_Nights_hasPassed := ⟨t_905, t_906⟩
abbrev y_Nights_lightsIn : MethodName := ⟨"DonkeyLight$Nights", "lightsIn", "(LDonkeyLight$Coast;I)I"⟩
theorem mo_Nights_lightsIn : mOK y_Nights_lightsIn prog_6_method_12_code 5 (some Jvm.ClassFile.FieldType.int) 2 := ⟨t_1007, t_9, ⟨by decide, by decide, by decide +kernel⟩, by decide⟩
theorem mv_Nights_lightsIn : mV y_Nights_lightsIn := ⟨t_1005, t_1006⟩
abbrev y_Nights_donkeysIn : MethodName := ⟨"DonkeyLight$Nights", "donkeysIn", "(LDonkeyLight$Coast;I)I"⟩
theorem mo_Nights_donkeysIn : mOK y_Nights_donkeysIn prog_6_method_13_code 5 (some Jvm.ClassFile.FieldType.int) 2 := ⟨t_1011, t_9, ⟨by decide, by decide, by decide +kernel⟩, by decide⟩
theorem mv_Nights_donkeysIn : mV y_Nights_donkeysIn := ⟨t_1009, t_1010⟩
abbrev y_Nights_reach : MethodName := ⟨"DonkeyLight$Nights", "reach", "(LDonkeyLight$Coast;)I"⟩
theorem mo_Nights_reach : mOK y_Nights_reach prog_6_method_14_code 2 (some Jvm.ClassFile.FieldType.int) 1 := ⟨t_444, t_9, ⟨by decide, by decide, by decide +kernel⟩, by decide⟩
theorem mv_Nights_reach : mV y_Nights_reach := ⟨t_442, t_443⟩
abbrev y_Nights_lightFlashes : MethodName := ⟨"DonkeyLight$Nights", "lightFlashes", "(LDonkeyLight$Coast;III)I"⟩
theorem mo_Nights_lightFlashes : mOK y_Nights_lightFlashes prog_6_method_15_code 11 (some Jvm.ClassFile.FieldType.int) 4 := ⟨t_453, t_9, ⟨by decide, by decide, by decide +kernel⟩, by decide⟩
theorem mv_Nights_lightFlashes : mV y_Nights_lightFlashes := ⟨t_451, t_452⟩
abbrev y_Nights_donkeyFlashes : MethodName := ⟨"DonkeyLight$Nights", "donkeyFlashes", "(LDonkeyLight$Coast;III)I"⟩
theorem mo_Nights_donkeyFlashes : mOK y_Nights_donkeyFlashes prog_6_method_16_code 11 (some Jvm.ClassFile.FieldType.int) 4 := ⟨t_466, t_9, ⟨by decide, by decide, by decide +kernel⟩, by decide⟩
theorem mv_Nights_donkeyFlashes : mV y_Nights_donkeyFlashes := ⟨t_464, t_465⟩
abbrev y_Passing_init : MethodName := ⟨"DonkeyLight$Passing", "<init>", "()V"⟩
theorem mo_Passing_init : mOK y_Passing_init prog_7_method_1_code 1 none 0 := ⟨t_238, t_10, ⟨by decide, by decide, by decide +kernel⟩, by decide⟩
abbrev y_Passing_begin : MethodName := ⟨"DonkeyLight$Passing", "begin", "(LDonkeyLight$Coast;LDonkeyLight$Law;LDonkeyLight$Nights;)V"⟩
theorem mo_Passing_begin : mOK y_Passing_begin prog_7_method_2_code 8 none 3 := ⟨t_427, t_10, ⟨by decide, by decide, by decide +kernel⟩, by decide⟩
theorem mv_Passing_begin : mV y_Passing_begin := ⟨t_425, t_426⟩
abbrev y_Passing_seenIn : MethodName := ⟨"DonkeyLight$Passing", "seenIn", "(I)I"⟩
theorem mo_Passing_seenIn : mOK y_Passing_seenIn prog_7_method_3_code 2 (some Jvm.ClassFile.FieldType.int) 1 := ⟨t_1155, t_10, ⟨by decide, by decide, by decide +kernel⟩, by decide⟩
theorem mv_Passing_seenIn : mV y_Passing_seenIn := ⟨t_1153, t_1154⟩
abbrev y_Passing_setSeen : MethodName := ⟨"DonkeyLight$Passing", "setSeen", "(II)V"⟩
theorem mo_Passing_setSeen : mOK y_Passing_setSeen prog_7_method_4_code 3 none 2 := ⟨t_1125, t_10, ⟨by decide, by decide, by decide +kernel⟩, by decide⟩
theorem mv_Passing_setSeen : mV y_Passing_setSeen := ⟨t_1123, t_1124⟩
abbrev y_Passing_reckonDark : MethodName := ⟨"DonkeyLight$Passing", "reckonDark", "(I)V"⟩
theorem mo_Passing_reckonDark : mOK y_Passing_reckonDark prog_7_method_5_code 4 none 1 := ⟨t_474, t_10, ⟨by decide, by decide, by decide +kernel⟩, by decide⟩
theorem mv_Passing_reckonDark : mV y_Passing_reckonDark := ⟨t_472, t_473⟩
abbrev y_Passing_pass : MethodName := ⟨"DonkeyLight$Passing", "pass", "(LDonkeyLight$Coast;LDonkeyLight$Law;LDonkeyLight$Nights;I)V"⟩
theorem mo_Passing_pass : mOK y_Passing_pass prog_7_method_6_code 5 none 4 := ⟨t_901, t_10, ⟨by decide, by decide, by decide +kernel⟩, by decide⟩
theorem mv_Passing_pass : mV y_Passing_pass := ⟨t_899, t_900⟩
abbrev y_Passing_struckIn : MethodName := ⟨"DonkeyLight$Passing", "struckIn", "(LDonkeyLight$Coast;LDonkeyLight$Law;I)I"⟩
theorem mo_Passing_struckIn : mOK y_Passing_struckIn prog_7_method_7_code 8 (some Jvm.ClassFile.FieldType.int) 3 := ⟨t_479, t_10, ⟨by decide, by decide, by decide +kernel⟩, by decide⟩
theorem mv_Passing_struckIn : mV y_Passing_struckIn := ⟨t_477, t_478⟩
abbrev y_Passing_steeredCells : MethodName := ⟨"DonkeyLight$Passing", "steeredCells", "(LDonkeyLight$Coast;LDonkeyLight$Law;II)I"⟩
theorem mo_Passing_steeredCells : mOK y_Passing_steeredCells prog_7_method_8_code 7 (some Jvm.ClassFile.FieldType.int) 4 := ⟨t_1073, t_10, ⟨by decide, by decide, by decide +kernel⟩, by decide⟩
theorem mv_Passing_steeredCells : mV y_Passing_steeredCells := ⟨t_1071, t_1072⟩
abbrev y_Passing_flashesTo : MethodName := ⟨"DonkeyLight$Passing", "flashesTo", "(LDonkeyLight$Coast;I)I"⟩
theorem mo_Passing_flashesTo : mOK y_Passing_flashesTo prog_7_method_9_code 5 (some Jvm.ClassFile.FieldType.int) 2 := ⟨t_1082, t_10, ⟨by decide, by decide, by decide +kernel⟩, by decide⟩
theorem mv_Passing_flashesTo : mV y_Passing_flashesTo := ⟨t_1080, t_1081⟩
abbrev y_Passing_firstBlind : MethodName := ⟨"DonkeyLight$Passing", "firstBlind", "(LDonkeyLight$Coast;I)I"⟩
theorem mo_Passing_firstBlind : mOK y_Passing_firstBlind prog_7_method_10_code 4 (some Jvm.ClassFile.FieldType.int) 2 := ⟨t_1304, t_10, ⟨by decide, by decide, by decide +kernel⟩, by decide⟩
theorem mv_Passing_firstBlind : mV y_Passing_firstBlind := ⟨t_1302, t_1303⟩
abbrev y_Passing_lastMinute : MethodName := ⟨"DonkeyLight$Passing", "lastMinute", "(LDonkeyLight$Coast;I)I"⟩
theorem mo_Passing_lastMinute : mOK y_Passing_lastMinute prog_7_method_11_code 2 (some Jvm.ClassFile.FieldType.int) 2 := ⟨t_1076, t_10, ⟨by decide, by decide, by decide +kernel⟩, by decide⟩
abbrev y_Plans_init : MethodName := ⟨"DonkeyLight$Plans", "<init>", "()V"⟩
theorem mo_Plans_init : mOK y_Plans_init prog_8_method_1_code 1 none 0 := ⟨t_259, t_11, ⟨by decide, by decide, by decide +kernel⟩, by decide⟩
abbrev y_Plans_worth : MethodName := ⟨"DonkeyLight$Plans", "worth", "()I"⟩
theorem mo_Plans_worth : mOK y_Plans_worth prog_8_method_2_code 1 (some Jvm.ClassFile.FieldType.int) 0 := ⟨t_1136, t_11, ⟨by decide, by decide, by decide +kernel⟩, by decide⟩
theorem mv_Plans_worth : mV y_Plans_worth := ⟨t_1134, t_1135⟩
abbrev y_Plans_donkeyCells : MethodName := ⟨"DonkeyLight$Plans", "donkeyCells", "()I"⟩
theorem mo_Plans_donkeyCells : mOK y_Plans_donkeyCells prog_8_method_3_code 1 (some Jvm.ClassFile.FieldType.int) 0 := ⟨t_1140, t_11, ⟨by decide, by decide, by decide +kernel⟩, by decide⟩
theorem mv_Plans_donkeyCells : mV y_Plans_donkeyCells := ⟨t_1138, t_1139⟩
abbrev y_Plans_lampCell : MethodName := ⟨"DonkeyLight$Plans", "lampCell", "()I"⟩
theorem mo_Plans_lampCell : mOK y_Plans_lampCell prog_8_method_4_code 1 (some Jvm.ClassFile.FieldType.int) 0 := ⟨t_1166, t_11, ⟨by decide, by decide, by decide +kernel⟩, by decide⟩
theorem mv_Plans_lampCell : mV y_Plans_lampCell := ⟨t_1164, t_1165⟩
abbrev y_Plans_lampPeriod : MethodName := ⟨"DonkeyLight$Plans", "lampPeriod", "()I"⟩
theorem mo_Plans_lampPeriod : mOK y_Plans_lampPeriod prog_8_method_5_code 1 (some Jvm.ClassFile.FieldType.int) 0 := ⟨t_1170, t_11, ⟨by decide, by decide, by decide +kernel⟩, by decide⟩
theorem mv_Plans_lampPeriod : mV y_Plans_lampPeriod := ⟨t_1168, t_1169⟩
abbrev y_Plans_placeDonkeys : MethodName := ⟨"DonkeyLight$Plans", "placeDonkeys", "(LDonkeyLight$Coast;LDonkeyLight$Law;LDonkeyLight$Nights;LDonkeyLight$Passing;I)V"⟩
theorem mo_Plans_placeDonkeys : mOK y_Plans_placeDonkeys prog_8_method_6_code 10 none 5 := ⟨t_1097, t_11, ⟨by decide, by decide, by decide +kernel⟩, by decide⟩
theorem mv_Plans_placeDonkeys : mV y_Plans_placeDonkeys := ⟨t_1095, t_1096⟩
abbrev y_Plans_lookWithoutDonkeys : MethodName := ⟨"DonkeyLight$Plans", "lookWithoutDonkeys", "(LDonkeyLight$Coast;LDonkeyLight$Nights;)V"⟩
theorem mo_Plans_lookWithoutDonkeys : mOK y_Plans_lookWithoutDonkeys prog_8_method_7_code 10 none 2 := ⟨t_1103, t_11, ⟨by decide, by decide, by decide +kernel⟩, by decide⟩
theorem mv_Plans_lookWithoutDonkeys : mV y_Plans_lookWithoutDonkeys := ⟨t_1102, u_23⟩
abbrev y_Plans_cellsOf : MethodName := ⟨"DonkeyLight$Plans", "cellsOf", "(LDonkeyLight$Coast;I)I"⟩
theorem mo_Plans_cellsOf : mOK y_Plans_cellsOf prog_8_method_8_code 5 (some Jvm.ClassFile.FieldType.int) 2 := ⟨t_1111, t_11, ⟨by decide, by decide, by decide +kernel⟩, by decide⟩
abbrev y_Plans_showDonkeys : MethodName := ⟨"DonkeyLight$Plans", "showDonkeys", "(LDonkeyLight$Coast;LDonkeyLight$Passing;I)V"⟩
theorem mo_Plans_showDonkeys : mOK y_Plans_showDonkeys prog_8_method_9_code 8 none 3 := ⟨t_1121, t_11, ⟨by decide, by decide, by decide +kernel⟩, by decide⟩
theorem mv_Plans_showDonkeys : mV y_Plans_showDonkeys := ⟨t_1120, u_24⟩
abbrev y_Plans_parishCargo : MethodName := ⟨"DonkeyLight$Plans", "parishCargo", "(LDonkeyLight$Coast;LDonkeyLight$Law;LDonkeyLight$Passing;I)I"⟩
theorem mo_Plans_parishCargo : mOK y_Plans_parishCargo prog_8_method_10_code 6 (some Jvm.ClassFile.FieldType.int) 4 := ⟨t_1129, t_11, ⟨by decide, by decide, by decide +kernel⟩, by decide⟩
abbrev y_Plans_placeLamp : MethodName := ⟨"DonkeyLight$Plans", "placeLamp", "(LDonkeyLight$Coast;LDonkeyLight$Law;LDonkeyLight$Nights;LDonkeyLight$Passing;)V"⟩
theorem mo_Plans_placeLamp : mOK y_Plans_placeLamp prog_8_method_11_code 9 none 4 := ⟨t_1151, t_11, ⟨by decide, by decide, by decide +kernel⟩, by decide⟩
theorem mv_Plans_placeLamp : mV y_Plans_placeLamp := ⟨t_1149, t_1150⟩
abbrev y_Plans_showLamp : MethodName := ⟨"DonkeyLight$Plans", "showLamp", "(LDonkeyLight$Coast;LDonkeyLight$Passing;III)V"⟩
theorem mo_Plans_showLamp : mOK y_Plans_showLamp prog_8_method_12_code 7 none 5 := ⟨t_1159, t_11, ⟨by decide, by decide, by decide +kernel⟩, by decide⟩
theorem mv_Plans_showLamp : mV y_Plans_showLamp := ⟨t_1158, u_25⟩
abbrev y_Plans_safeShips : MethodName := ⟨"DonkeyLight$Plans", "safeShips", "(LDonkeyLight$Coast;LDonkeyLight$Law;LDonkeyLight$Passing;)I"⟩
theorem mo_Plans_safeShips : mOK y_Plans_safeShips prog_8_method_13_code 5 (some Jvm.ClassFile.FieldType.int) 3 := ⟨t_1162, t_11, ⟨by decide, by decide, by decide +kernel⟩, by decide⟩
abbrev y_Row_init : MethodName := ⟨"DonkeyLight$Row", "<init>", "(I)V"⟩
theorem mo_Row_init : mOK y_Row_init prog_9_method_1_code 2 none 1 := ⟨t_42, t_3, ⟨by decide, by decide, by decide +kernel⟩, by decide⟩
abbrev y_Row_get : MethodName := ⟨"DonkeyLight$Row", "get", "(I)I"⟩
theorem mo_Row_get : mOK y_Row_get prog_9_method_2_code 2 (some Jvm.ClassFile.FieldType.int) 1 := ⟨t_418, t_3, ⟨by decide, by decide, by decide +kernel⟩, by decide⟩
theorem mv_Row_get : mV y_Row_get := ⟨t_416, t_417⟩
abbrev y_Row_set : MethodName := ⟨"DonkeyLight$Row", "set", "(II)V"⟩
theorem mo_Row_set : mOK y_Row_set prog_9_method_3_code 3 none 2 := ⟨t_158, t_3, ⟨by decide, by decide, by decide +kernel⟩, by decide⟩
theorem mv_Row_set : mV y_Row_set := ⟨t_156, t_157⟩
abbrev y_Row_add : MethodName := ⟨"DonkeyLight$Row", "add", "(II)V"⟩
theorem mo_Row_add : mOK y_Row_add prog_9_method_4_code 3 none 2 := ⟨t_753, t_3, ⟨by decide, by decide, by decide +kernel⟩, by decide⟩
theorem mv_Row_add : mV y_Row_add := ⟨t_751, t_752⟩
abbrev y_Row_clear : MethodName := ⟨"DonkeyLight$Row", "clear", "()V"⟩
theorem mo_Row_clear : mOK y_Row_clear prog_9_method_5_code 2 none 0 := ⟨t_431, t_3, ⟨by decide, by decide, by decide +kernel⟩, by decide⟩
theorem mv_Row_clear : mV y_Row_clear := ⟨t_429, t_430⟩
abbrev y_Row_sum : MethodName := ⟨"DonkeyLight$Row", "sum", "()I"⟩
theorem mo_Row_sum : mOK y_Row_sum prog_9_method_6_code 3 (some Jvm.ClassFile.FieldType.int) 0 := ⟨t_1218, t_3, ⟨by decide, by decide, by decide +kernel⟩, by decide⟩
theorem mv_Row_sum : mV y_Row_sum := ⟨t_1216, t_1217⟩
abbrev y_Row_become : MethodName := ⟨"DonkeyLight$Row", "become", "(LDonkeyLight$Row;)V"⟩
theorem mo_Row_become : mOK y_Row_become prog_9_method_7_code 2 none 1 := ⟨t_766, t_3, ⟨by decide, by decide, by decide +kernel⟩, by decide⟩
theorem mv_Row_become : mV y_Row_become := ⟨t_764, t_765⟩
abbrev y_Row_copyFrom : MethodName := ⟨"DonkeyLight$Row", "copyFrom", "(LDonkeyLight$Row;III)V"⟩
theorem mo_Row_copyFrom : mOK y_Row_copyFrom prog_9_method_8_code 6 none 4 := ⟨t_414, t_3, ⟨by decide, by decide, by decide +kernel⟩, by decide⟩
theorem mv_Row_copyFrom : mV y_Row_copyFrom := ⟨t_412, t_413⟩
abbrev y_Tape_init : MethodName := ⟨"DonkeyLight$Tape", "<init>", "()V"⟩
theorem mo_Tape_init : mOK y_Tape_init prog_10_method_1_code 1 none 0 := ⟨t_36, t_2, ⟨by decide, by decide, by decide +kernel⟩, by decide⟩
abbrev y_Tape_held : MethodName := ⟨"DonkeyLight$Tape", "held", "()I"⟩
theorem mo_Tape_held : mOK y_Tape_held prog_10_method_2_code 1 (some Jvm.ClassFile.FieldType.int) 0 := ⟨t_385, t_2, ⟨by decide, by decide, by decide +kernel⟩, by decide⟩
theorem mv_Tape_held : mV y_Tape_held := ⟨t_383, t_384⟩
abbrev y_Tape_append : MethodName := ⟨"DonkeyLight$Tape", "append", "(I)V"⟩
theorem mo_Tape_append : mOK y_Tape_append prog_10_method_3_code 3 none 1 := ⟨t_389, t_2, ⟨by decide, by decide, by decide +kernel⟩, by decide⟩
theorem mv_Tape_append : mV y_Tape_append := ⟨t_387, t_388⟩
abbrev y_Tape_open : MethodName := ⟨"DonkeyLight$Tape", "open", "(I)V"⟩
theorem mo_Tape_open : mOK y_Tape_open prog_10_method_4_code 2 none 1 := ⟨t_636, t_2, ⟨by decide, by decide, by decide +kernel⟩, by decide⟩
theorem mv_Tape_open : mV y_Tape_open := ⟨t_634, t_635⟩
abbrev y_Tape_fine : MethodName := ⟨"DonkeyLight$Tape", "fine", "()Z"⟩
theorem mo_Tape_fine : mOK y_Tape_fine prog_10_method_5_code 1 (some Jvm.ClassFile.FieldType.boolean) 0 := ⟨t_649, t_2, ⟨by decide, by decide, by decide +kernel⟩, by decide⟩
theorem mv_Tape_fine : mV y_Tape_fine := ⟨t_647, t_648⟩
abbrev y_Tape_faultPlace : MethodName := ⟨"DonkeyLight$Tape", "faultPlace", "()I"⟩
theorem mo_Tape_faultPlace : mOK y_Tape_faultPlace prog_10_method_6_code 1 (some Jvm.ClassFile.FieldType.int) 0 := ⟨t_398, t_2, ⟨by decide, by decide, by decide +kernel⟩, by decide⟩
theorem mv_Tape_faultPlace : mV y_Tape_faultPlace := ⟨t_396, t_397⟩
abbrev y_Tape_answer : MethodName := ⟨"DonkeyLight$Tape", "answer", "()I"⟩
theorem mo_Tape_answer : mOK y_Tape_answer prog_10_method_7_code 1 (some Jvm.ClassFile.FieldType.int) 0 := ⟨t_758, t_2, ⟨by decide, by decide, by decide +kernel⟩, by decide⟩
theorem mv_Tape_answer : mV y_Tape_answer := ⟨t_756, t_757⟩
abbrev y_Tape_blame : MethodName := ⟨"DonkeyLight$Tape", "blame", "(II)V"⟩
theorem mo_Tape_blame : mOK y_Tape_blame prog_10_method_8_code 3 none 2 := ⟨t_722, t_2, ⟨by decide, by decide, by decide +kernel⟩, by decide⟩
theorem mv_Tape_blame : mV y_Tape_blame := ⟨t_721, u_8⟩
abbrev y_Tape_blameItem : MethodName := ⟨"DonkeyLight$Tape", "blameItem", "(I)V"⟩
theorem mo_Tape_blameItem : mOK y_Tape_blameItem prog_10_method_9_code 2 none 1 := ⟨t_718, t_2, ⟨by decide, by decide, by decide +kernel⟩, by decide⟩
theorem mv_Tape_blameItem : mV y_Tape_blameItem := ⟨t_716, t_717⟩
abbrev y_Tape_require : MethodName := ⟨"DonkeyLight$Tape", "require", "(Z)V"⟩
theorem mo_Tape_require : mOK y_Tape_require prog_10_method_10_code 2 none 1 := ⟨t_742, t_2, ⟨by decide, by decide, by decide +kernel⟩, by decide⟩
theorem mv_Tape_require : mV y_Tape_require := ⟨t_740, t_741⟩
abbrev y_Tape_moveTo : MethodName := ⟨"DonkeyLight$Tape", "moveTo", "(I)V"⟩
theorem mo_Tape_moveTo : mOK y_Tape_moveTo prog_10_method_11_code 2 none 1 := ⟨t_640, t_2, ⟨by decide, by decide, by decide +kernel⟩, by decide⟩
theorem mv_Tape_moveTo : mV y_Tape_moveTo := ⟨t_639, u_5⟩
abbrev y_Tape_ended : MethodName := ⟨"DonkeyLight$Tape", "ended", "()Z"⟩
theorem mo_Tape_ended : mOK y_Tape_ended prog_10_method_12_code 1 (some Jvm.ClassFile.FieldType.boolean) 0 := ⟨t_653, t_2, ⟨by decide, by decide, by decide +kernel⟩, by decide⟩
theorem mv_Tape_ended : mV y_Tape_ended := ⟨t_651, t_652⟩
abbrev y_Tape_nextIs : MethodName := ⟨"DonkeyLight$Tape", "nextIs", "(C)Z"⟩
theorem mo_Tape_nextIs : mOK y_Tape_nextIs prog_10_method_13_code 2 (some Jvm.ClassFile.FieldType.boolean) 1 := ⟨t_844, t_2, ⟨by decide, by decide, by decide +kernel⟩, by decide⟩
theorem mv_Tape_nextIs : mV y_Tape_nextIs := ⟨t_842, t_843⟩
abbrev y_Tape_take : MethodName := ⟨"DonkeyLight$Tape", "take", "(C)Z"⟩
theorem mo_Tape_take : mOK y_Tape_take prog_10_method_14_code 2 (some Jvm.ClassFile.FieldType.boolean) 1 := ⟨t_748, t_2, ⟨by decide, by decide, by decide +kernel⟩, by decide⟩
theorem mv_Tape_take : mV y_Tape_take := ⟨t_746, t_747⟩
abbrev y_Tape_digitNext : MethodName := ⟨"DonkeyLight$Tape", "digitNext", "()Z"⟩
theorem mo_Tape_digitNext : mOK y_Tape_digitNext prog_10_method_15_code 1 (some Jvm.ClassFile.FieldType.boolean) 0 := ⟨t_738, t_2, ⟨by decide, by decide, by decide +kernel⟩, by decide⟩
theorem mv_Tape_digitNext : mV y_Tape_digitNext := ⟨t_736, t_737⟩
abbrev y_Tape_numberIn : MethodName := ⟨"DonkeyLight$Tape", "numberIn", "(II)I"⟩
theorem mo_Tape_numberIn : mOK y_Tape_numberIn prog_10_method_16_code 5 (some Jvm.ClassFile.FieldType.int) 2 := ⟨t_734, t_2, ⟨by decide, by decide, by decide +kernel⟩, by decide⟩
theorem mv_Tape_numberIn : mV y_Tape_numberIn := ⟨t_732, t_733⟩
abbrev y_Tape_wordOf : MethodName := ⟨"DonkeyLight$Tape", "wordOf", "(Ljava/lang/String;)I"⟩
theorem mo_Tape_wordOf : mOK y_Tape_wordOf prog_10_method_17_code 4 (some Jvm.ClassFile.FieldType.int) 1 := ⟨t_662, t_2, ⟨by decide, by decide, by decide +kernel⟩, by decide⟩
theorem mv_Tape_wordOf : mV y_Tape_wordOf := ⟨t_660, t_661⟩
abbrev y_Tape_indexOfItem : MethodName := ⟨"DonkeyLight$Tape", "indexOfItem", "(Ljava/lang/String;I)I"⟩
theorem mo_Tape_indexOfItem : mOK y_Tape_indexOfItem prog_10_method_18_code 8 (some Jvm.ClassFile.FieldType.int) 2 := ⟨t_666, t_2, ⟨by decide, by decide, by decide +kernel⟩, by decide⟩
theorem mv_Tape_indexOfItem : mV y_Tape_indexOfItem := ⟨t_665, u_7⟩
abbrev y_Winter_init : MethodName := ⟨"DonkeyLight$Winter", "<init>", "()V"⟩
theorem mo_Winter_init : mOK y_Winter_init prog_11_method_1_code 1 none 0 := ⟨t_286, t_12, ⟨by decide, by decide, by decide +kernel⟩, by decide⟩
abbrev y_Winter_struck : MethodName := ⟨"DonkeyLight$Winter", "struck", "()I"⟩
theorem mo_Winter_struck : mOK y_Winter_struck prog_11_method_2_code 1 (some Jvm.ClassFile.FieldType.int) 0 := ⟨t_1378, t_12, ⟨by decide, by decide, by decide +kernel⟩, by decide⟩
theorem mv_Winter_struck : mV y_Winter_struck := ⟨t_1376, t_1377⟩
abbrev y_Winter_parish : MethodName := ⟨"DonkeyLight$Winter", "parish", "()I"⟩
theorem mo_Winter_parish : mOK y_Winter_parish prog_11_method_3_code 1 (some Jvm.ClassFile.FieldType.int) 0 := ⟨t_1382, t_12, ⟨by decide, by decide, by decide +kernel⟩, by decide⟩
theorem mv_Winter_parish : mV y_Winter_parish := ⟨t_1380, t_1381⟩
abbrev y_Winter_alive : MethodName := ⟨"DonkeyLight$Winter", "alive", "()I"⟩
theorem mo_Winter_alive : mOK y_Winter_alive prog_11_method_4_code 1 (some Jvm.ClassFile.FieldType.int) 0 := ⟨t_1386, t_12, ⟨by decide, by decide, by decide +kernel⟩, by decide⟩
theorem mv_Winter_alive : mV y_Winter_alive := ⟨t_1384, t_1385⟩
abbrev y_Winter_foggy : MethodName := ⟨"DonkeyLight$Winter", "foggy", "()I"⟩
theorem mo_Winter_foggy : mOK y_Winter_foggy prog_11_method_5_code 1 (some Jvm.ClassFile.FieldType.int) 0 := ⟨t_1390, t_12, ⟨by decide, by decide, by decide +kernel⟩, by decide⟩
theorem mv_Winter_foggy : mV y_Winter_foggy := ⟨t_1388, t_1389⟩
abbrev y_Winter_begin : MethodName := ⟨"DonkeyLight$Winter", "begin", "(LDonkeyLight$Nights;I)V"⟩
theorem mo_Winter_begin : mOK y_Winter_begin prog_11_method_6_code 3 none 2 := ⟨t_1354, t_12, ⟨by decide, by decide, by decide +kernel⟩, by decide⟩
theorem mv_Winter_begin : mV y_Winter_begin := ⟨t_1352, t_1353⟩
abbrev y_Winter_live : MethodName := ⟨"DonkeyLight$Winter", "live", "(LDonkeyLight$Coast;LDonkeyLight$Law;LDonkeyLight$Passing;II)V"⟩
theorem mo_Winter_live : mOK y_Winter_live prog_11_method_7_code 8 none 5 := ⟨t_1363, t_12, ⟨by decide, by decide, by decide +kernel⟩, by decide⟩
theorem mv_Winter_live : mV y_Winter_live := ⟨t_1361, t_1362⟩
abbrev y_Winter_draw : MethodName := ⟨"DonkeyLight$Winter", "draw", "(I)I"⟩
theorem mo_Winter_draw : mOK y_Winter_draw prog_11_method_8_code 2 (some Jvm.ClassFile.FieldType.int) 1 := ⟨t_1368, t_12, ⟨by decide, by decide, by decide +kernel⟩, by decide⟩
theorem mv_Winter_draw : mV y_Winter_draw := ⟨t_1367, u_29⟩
abbrev y_Work_init : MethodName := ⟨"DonkeyLight$Work", "<init>", "()V"⟩
theorem mo_Work_init : mOK y_Work_init prog_12_method_1_code 1 none 0 := ⟨t_194, t_8, ⟨by decide, by decide, by decide +kernel⟩, by decide⟩
abbrev y_Work_done : MethodName := ⟨"DonkeyLight$Work", "done", "()I"⟩
theorem mo_Work_done : mOK y_Work_done prog_12_method_2_code 1 (some Jvm.ClassFile.FieldType.int) 0 := ⟨t_934, t_8, ⟨by decide, by decide, by decide +kernel⟩, by decide⟩
theorem mv_Work_done : mV y_Work_done := ⟨t_932, t_933⟩
abbrev y_Work_refused : MethodName := ⟨"DonkeyLight$Work", "refused", "()I"⟩
theorem mo_Work_refused : mOK y_Work_refused prog_12_method_3_code 1 (some Jvm.ClassFile.FieldType.int) 0 := ⟨t_930, t_8, ⟨by decide, by decide, by decide +kernel⟩, by decide⟩
theorem mv_Work_refused : mV y_Work_refused := ⟨t_928, t_929⟩
abbrev y_Work_readFrom : MethodName := ⟨"DonkeyLight$Work", "readFrom", "(LDonkeyLight$Tape;LDonkeyLight$Coast;)V"⟩
theorem mo_Work_readFrom : mOK y_Work_readFrom prog_12_method_4_code 3 none 2 := ⟨t_834, t_8, ⟨by decide, by decide, by decide +kernel⟩, by decide⟩
theorem mv_Work_readFrom : mV y_Work_readFrom := ⟨t_832, t_833⟩
abbrev y_Work_readSteps : MethodName := ⟨"DonkeyLight$Work", "readSteps", "(LDonkeyLight$Tape;LDonkeyLight$Coast;I)V"⟩
theorem mo_Work_readSteps : mOK y_Work_readSteps prog_12_method_5_code 5 none 3 := ⟨t_838, t_8, ⟨by decide, by decide, by decide +kernel⟩, by decide⟩
theorem mv_Work_readSteps : mV y_Work_readSteps := ⟨t_837, u_13⟩
abbrev y_Work_readStep : MethodName := ⟨"DonkeyLight$Work", "readStep", "(LDonkeyLight$Tape;LDonkeyLight$Coast;I)V"⟩
theorem mo_Work_readStep : mOK y_Work_readStep prog_12_method_6_code 6 none 3 := ⟨t_848, t_8, ⟨by decide, by decide, by decide +kernel⟩, by decide⟩
theorem mv_Work_readStep : mV y_Work_readStep := ⟨t_847, u_14⟩
abbrev y_Work_readAgain : MethodName := ⟨"DonkeyLight$Work", "readAgain", "(LDonkeyLight$Tape;LDonkeyLight$Coast;II)V"⟩
theorem mo_Work_readAgain : mOK y_Work_readAgain prog_12_method_7_code 5 none 4 := ⟨t_857, t_8, ⟨by decide, by decide, by decide +kernel⟩, by decide⟩
theorem mv_Work_readAgain : mV y_Work_readAgain := ⟨t_856, u_15⟩
abbrev y_Work_run : MethodName := ⟨"DonkeyLight$Work", "run", "(LDonkeyLight$Coast;LDonkeyLight$Law;LDonkeyLight$Nights;LDonkeyLight$Passing;)V"⟩
theorem mo_Work_run : mOK y_Work_run prog_12_method_8_code 5 none 4 := ⟨t_868, t_8, ⟨by decide, by decide, by decide +kernel⟩, by decide⟩
theorem mv_Work_run : mV y_Work_run := ⟨t_866, t_867⟩
abbrev y_Work_runSteps : MethodName := ⟨"DonkeyLight$Work", "runSteps", "(IIILDonkeyLight$Coast;LDonkeyLight$Law;LDonkeyLight$Nights;LDonkeyLight$Passing;)V"⟩
theorem mo_Work_runSteps : mOK y_Work_runSteps prog_12_method_9_code 11 none 7 := ⟨t_872, t_8, ⟨by decide, by decide, by decide +kernel⟩, by decide⟩
theorem mv_Work_runSteps : mV y_Work_runSteps := ⟨t_871, u_16⟩
abbrev y_Work_runAgain : MethodName := ⟨"DonkeyLight$Work", "runAgain", "(IILDonkeyLight$Coast;LDonkeyLight$Law;LDonkeyLight$Nights;LDonkeyLight$Passing;)V"⟩
theorem mo_Work_runAgain : mOK y_Work_runAgain prog_12_method_10_code 9 none 6 := ⟨t_876, t_8, ⟨by decide, by decide, by decide +kernel⟩, by decide⟩
theorem mv_Work_runAgain : mV y_Work_runAgain := ⟨t_875, u_17⟩
abbrev y_Work_doStep : MethodName := ⟨"DonkeyLight$Work", "doStep", "(ILDonkeyLight$Coast;LDonkeyLight$Law;LDonkeyLight$Nights;LDonkeyLight$Passing;)Z"⟩
theorem mo_Work_doStep : mOK y_Work_doStep prog_12_method_11_code 7 (some Jvm.ClassFile.FieldType.boolean) 5 := ⟨t_881, t_8, ⟨by decide, by decide, by decide +kernel⟩, by decide⟩
theorem mv_Work_doStep : mV y_Work_doStep := ⟨t_880, u_18⟩
abbrev y_DL_init : MethodName := ⟨"DonkeyLight", "<init>", "()V"⟩
theorem mo_DL_init : mOK y_DL_init prog_1_method_1_code 1 none 0 := ⟨t_28, t_1, ⟨by decide, by decide, by decide +kernel⟩, by decide⟩
abbrev y_DL_feed : MethodName := ⟨"DonkeyLight", "feed", "(IIIII)I"⟩
theorem mo_DL_feed : mOK y_DL_feed prog_1_method_2_code 6 (some Jvm.ClassFile.FieldType.int) 5 := ⟨t_381, t_1, ⟨by decide, by decide, by decide +kernel⟩, by decide⟩
theorem mv_DL_feed : mV y_DL_feed := ⟨t_379, t_380⟩
abbrev y_DL_coast : MethodName := ⟨"DonkeyLight", "coast", "(I)I"⟩
theorem mo_DL_coast : mOK y_DL_coast prog_1_method_3_code 2 (some Jvm.ClassFile.FieldType.int) 1 := ⟨t_556, t_1, ⟨by decide, by decide, by decide +kernel⟩, by decide⟩
theorem mv_DL_coast : mV y_DL_coast := ⟨t_554, t_555⟩
abbrev y_DL_law : MethodName := ⟨"DonkeyLight", "law", "(I)I"⟩
theorem mo_DL_law : mOK y_DL_law prog_1_method_4_code 2 (some Jvm.ClassFile.FieldType.int) 1 := ⟨t_790, t_1, ⟨by decide, by decide, by decide +kernel⟩, by decide⟩
theorem mv_DL_law : mV y_DL_law := ⟨t_788, t_789⟩
abbrev y_DL_work : MethodName := ⟨"DonkeyLight", "work", "(I)I"⟩
theorem mo_DL_work : mOK y_DL_work prog_1_method_5_code 2 (some Jvm.ClassFile.FieldType.int) 1 := ⟨t_830, t_1, ⟨by decide, by decide, by decide +kernel⟩, by decide⟩
theorem mv_DL_work : mV y_DL_work := ⟨t_828, t_829⟩
abbrev y_DL_log : MethodName := ⟨"DonkeyLight", "log", "(I)I"⟩
theorem mo_DL_log : mOK y_DL_log prog_1_method_6_code 2 (some Jvm.ClassFile.FieldType.int) 1 := ⟨t_941, t_1, ⟨by decide, by decide, by decide +kernel⟩, by decide⟩
theorem mv_DL_log : mV y_DL_log := ⟨t_939, t_940⟩
abbrev y_DL_fault : MethodName := ⟨"DonkeyLight", "fault", "()I"⟩
theorem mo_DL_fault : mOK y_DL_fault prog_1_method_7_code 1 (some Jvm.ClassFile.FieldType.int) 0 := ⟨t_394, t_1, ⟨by decide, by decide, by decide +kernel⟩, by decide⟩
theorem mv_DL_fault : mV y_DL_fault := ⟨t_392, t_393⟩
abbrev y_DL_undo : MethodName := ⟨"DonkeyLight", "undo", "()I"⟩
theorem mo_DL_undo : mOK y_DL_undo prog_1_method_8_code 1 (some Jvm.ClassFile.FieldType.int) 0 := ⟨t_402, t_1, ⟨by decide, by decide, by decide +kernel⟩, by decide⟩
theorem mv_DL_undo : mV y_DL_undo := ⟨t_400, t_401⟩
abbrev y_DL_told : MethodName := ⟨"DonkeyLight", "told", "(I)I"⟩
theorem mo_DL_told : mOK y_DL_told prog_1_method_9_code 2 (some Jvm.ClassFile.FieldType.int) 1 := ⟨t_974, t_1, ⟨by decide, by decide, by decide +kernel⟩, by decide⟩
theorem mv_DL_told : mV y_DL_told := ⟨t_972, t_973⟩
abbrev y_DL_cell : MethodName := ⟨"DonkeyLight", "cell", "(II)I"⟩
theorem mo_DL_cell : mOK y_DL_cell prog_1_method_10_code 3 (some Jvm.ClassFile.FieldType.int) 2 := ⟨t_983, t_1, ⟨by decide, by decide, by decide +kernel⟩, by decide⟩
theorem mv_DL_cell : mV y_DL_cell := ⟨t_981, t_982⟩
abbrev y_DL_light : MethodName := ⟨"DonkeyLight", "light", "(II)I"⟩
theorem mo_DL_light : mOK y_DL_light prog_1_method_11_code 3 (some Jvm.ClassFile.FieldType.int) 2 := ⟨t_1018, t_1, ⟨by decide, by decide, by decide +kernel⟩, by decide⟩
theorem mv_DL_light : mV y_DL_light := ⟨t_1016, t_1017⟩
abbrev y_DL_donkey : MethodName := ⟨"DonkeyLight", "donkey", "(II)I"⟩
theorem mo_DL_donkey : mOK y_DL_donkey prog_1_method_12_code 3 (some Jvm.ClassFile.FieldType.int) 2 := ⟨t_1026, t_1, ⟨by decide, by decide, by decide +kernel⟩, by decide⟩
theorem mv_DL_donkey : mV y_DL_donkey := ⟨t_1024, t_1025⟩
abbrev y_DL_ship : MethodName := ⟨"DonkeyLight", "ship", "(II)I"⟩
theorem mo_DL_ship : mOK y_DL_ship prog_1_method_13_code 3 (some Jvm.ClassFile.FieldType.int) 2 := ⟨t_1033, t_1, ⟨by decide, by decide, by decide +kernel⟩, by decide⟩
theorem mv_DL_ship : mV y_DL_ship := ⟨t_1031, t_1032⟩
abbrev y_DL_seen : MethodName := ⟨"DonkeyLight", "seen", "(II)I"⟩
theorem mo_DL_seen : mOK y_DL_seen prog_1_method_14_code 3 (some Jvm.ClassFile.FieldType.int) 2 := ⟨t_1045, t_1, ⟨by decide, by decide, by decide +kernel⟩, by decide⟩
theorem mv_DL_seen : mV y_DL_seen := ⟨t_1043, t_1044⟩
abbrev y_DL_would : MethodName := ⟨"DonkeyLight", "would", "(IIIIIII)Z"⟩
theorem mo_DL_would : mOK y_DL_would prog_1_method_15_code 8 (some Jvm.ClassFile.FieldType.boolean) 7 := ⟨t_1059, t_1, ⟨by decide, by decide, by decide +kernel⟩, by decide⟩
theorem mv_DL_would : mV y_DL_would := ⟨t_1057, t_1058⟩
abbrev y_DL_tried : MethodName := ⟨"DonkeyLight", "tried", "(II)I"⟩
theorem mo_DL_tried : mOK y_DL_tried prog_1_method_16_code 4 (some Jvm.ClassFile.FieldType.int) 2 := ⟨t_1069, t_1, ⟨by decide, by decide, by decide +kernel⟩, by decide⟩
theorem mv_DL_tried : mV y_DL_tried := ⟨t_1067, t_1068⟩
abbrev y_DL_safe : MethodName := ⟨"DonkeyLight", "safe", "()I"⟩
theorem mo_DL_safe : mOK y_DL_safe prog_1_method_17_code 3 (some Jvm.ClassFile.FieldType.int) 0 := ⟨t_423, t_1, ⟨by decide, by decide, by decide +kernel⟩, by decide⟩
theorem mv_DL_safe : mV y_DL_safe := ⟨t_421, t_422⟩
abbrev y_DL_put : MethodName := ⟨"DonkeyLight", "put", "(II)I"⟩
theorem mo_DL_put : mOK y_DL_put prog_1_method_18_code 3 (some Jvm.ClassFile.FieldType.int) 2 := ⟨t_1089, t_1, ⟨by decide, by decide, by decide +kernel⟩, by decide⟩
theorem mv_DL_put : mV y_DL_put := ⟨t_1087, t_1088⟩
abbrev y_DL_save : MethodName := ⟨"DonkeyLight", "save", "(I)I"⟩
theorem mo_DL_save : mOK y_DL_save prog_1_method_19_code 2 (some Jvm.ClassFile.FieldType.int) 1 := ⟨t_1147, t_1, ⟨by decide, by decide, by decide +kernel⟩, by decide⟩
theorem mv_DL_save : mV y_DL_save := ⟨t_1145, t_1146⟩
abbrev y_DL_fits : MethodName := ⟨"DonkeyLight", "fits", "(I)I"⟩
theorem mo_DL_fits : mOK y_DL_fits prog_1_method_20_code 2 (some Jvm.ClassFile.FieldType.int) 1 := ⟨t_1177, t_1, ⟨by decide, by decide, by decide +kernel⟩, by decide⟩
theorem mv_DL_fits : mV y_DL_fits := ⟨t_1175, t_1176⟩
abbrev y_DL_look : MethodName := ⟨"DonkeyLight", "look", "(I)I"⟩
theorem mo_DL_look : mOK y_DL_look prog_1_method_21_code 3 (some Jvm.ClassFile.FieldType.int) 1 := ⟨t_1197, t_1, ⟨by decide, by decide, by decide +kernel⟩, by decide⟩
theorem mv_DL_look : mV y_DL_look := ⟨t_1195, t_1196⟩
abbrev y_DL_code : MethodName := ⟨"DonkeyLight", "code", "(II)I"⟩
theorem mo_DL_code : mOK y_DL_code prog_1_method_22_code 3 (some Jvm.ClassFile.FieldType.int) 2 := ⟨t_1214, t_1, ⟨by decide, by decide, by decide +kernel⟩, by decide⟩
theorem mv_DL_code : mV y_DL_code := ⟨t_1212, t_1213⟩
abbrev y_DL_shortest : MethodName := ⟨"DonkeyLight", "shortest", "()I"⟩
theorem mo_DL_shortest : mOK y_DL_shortest prog_1_method_23_code 2 (some Jvm.ClassFile.FieldType.int) 0 := ⟨t_502, t_1, ⟨by decide, by decide, by decide +kernel⟩, by decide⟩
theorem mv_DL_shortest : mV y_DL_shortest := ⟨t_500, t_501⟩
abbrev y_DL_wink : MethodName := ⟨"DonkeyLight", "wink", "(IIIIII)J"⟩
theorem mo_DL_wink : mOK y_DL_wink prog_1_method_24_code 13 (some Jvm.ClassFile.FieldType.long) 6 := ⟨t_1225, t_1, ⟨by decide, by decide, by decide +kernel⟩, by decide⟩
theorem mv_DL_wink : mV y_DL_wink := ⟨t_1223, t_1224⟩
abbrev y_DL_carriers : MethodName := ⟨"DonkeyLight", "carriers", "(I)I"⟩
theorem mo_DL_carriers : mOK y_DL_carriers prog_1_method_25_code 3 (some Jvm.ClassFile.FieldType.int) 1 := ⟨t_1238, t_1, ⟨by decide, by decide, by decide +kernel⟩, by decide⟩
theorem mv_DL_carriers : mV y_DL_carriers := ⟨t_1236, t_1237⟩
abbrev y_DL_share : MethodName := ⟨"DonkeyLight", "share", "(II)I"⟩
theorem mo_DL_share : mOK y_DL_share prog_1_method_26_code 3 (some Jvm.ClassFile.FieldType.int) 2 := ⟨t_1263, t_1, ⟨by decide, by decide, by decide +kernel⟩, by decide⟩
theorem mv_DL_share : mV y_DL_share := ⟨t_1261, t_1262⟩
abbrev y_DL_drawn : MethodName := ⟨"DonkeyLight", "drawn", "(I)I"⟩
theorem mo_DL_drawn : mOK y_DL_drawn prog_1_method_27_code 4 (some Jvm.ClassFile.FieldType.int) 1 := ⟨t_1276, t_1, ⟨by decide, by decide, by decide +kernel⟩, by decide⟩
theorem mv_DL_drawn : mV y_DL_drawn := ⟨t_1274, t_1275⟩
abbrev y_DL_flash : MethodName := ⟨"DonkeyLight", "flash", "(II)I"⟩
theorem mo_DL_flash : mOK y_DL_flash prog_1_method_28_code 5 (some Jvm.ClassFile.FieldType.int) 2 := ⟨t_1284, t_1, ⟨by decide, by decide, by decide +kernel⟩, by decide⟩
theorem mv_DL_flash : mV y_DL_flash := ⟨t_1282, t_1283⟩
abbrev y_DL_alike : MethodName := ⟨"DonkeyLight", "alike", "(III)I"⟩
theorem mo_DL_alike : mOK y_DL_alike prog_1_method_29_code 8 (some Jvm.ClassFile.FieldType.int) 3 := ⟨t_1292, t_1, ⟨by decide, by decide, by decide +kernel⟩, by decide⟩
theorem mv_DL_alike : mV y_DL_alike := ⟨t_1290, t_1291⟩
abbrev y_DL_blind : MethodName := ⟨"DonkeyLight", "blind", "(I)I"⟩
theorem mo_DL_blind : mOK y_DL_blind prog_1_method_30_code 2 (some Jvm.ClassFile.FieldType.int) 1 := ⟨t_1300, t_1, ⟨by decide, by decide, by decide +kernel⟩, by decide⟩
theorem mv_DL_blind : mV y_DL_blind := ⟨t_1298, t_1299⟩
abbrev y_DL_reefs : MethodName := ⟨"DonkeyLight", "reefs", "(I)I"⟩
theorem mo_DL_reefs : mOK y_DL_reefs prog_1_method_31_code 3 (some Jvm.ClassFile.FieldType.int) 1 := ⟨t_1311, t_1, ⟨by decide, by decide, by decide +kernel⟩, by decide⟩
theorem mv_DL_reefs : mV y_DL_reefs := ⟨t_1309, t_1310⟩
abbrev y_DL_brightest : MethodName := ⟨"DonkeyLight", "brightest", "(I)I"⟩
theorem mo_DL_brightest : mOK y_DL_brightest prog_1_method_32_code 6 (some Jvm.ClassFile.FieldType.int) 1 := ⟨t_1331, t_1, ⟨by decide, by decide, by decide +kernel⟩, by decide⟩
theorem mv_DL_brightest : mV y_DL_brightest := ⟨t_1329, t_1330⟩
abbrev y_DL_wrecks : MethodName := ⟨"DonkeyLight", "wrecks", "(II)I"⟩
theorem mo_DL_wrecks : mOK y_DL_wrecks prog_1_method_33_code 6 (some Jvm.ClassFile.FieldType.int) 2 := ⟨t_1338, t_1, ⟨by decide, by decide, by decide +kernel⟩, by decide⟩
theorem mv_DL_wrecks : mV y_DL_wrecks := ⟨t_1336, t_1337⟩
abbrev y_DL_winter : MethodName := ⟨"DonkeyLight", "winter", "(IIII)I"⟩
theorem mo_DL_winter : mOK y_DL_winter prog_1_method_34_code 5 (some Jvm.ClassFile.FieldType.int) 4 := ⟨t_1350, t_1, ⟨by decide, by decide, by decide +kernel⟩, by decide⟩
theorem mv_DL_winter : mV y_DL_winter := ⟨t_1348, t_1349⟩
abbrev y_DL_span : MethodName := ⟨"DonkeyLight", "span", "(IIIII)I"⟩
theorem mo_DL_span : mOK y_DL_span prog_1_method_35_code 10 (some Jvm.ClassFile.FieldType.int) 5 := ⟨t_1397, t_1, ⟨by decide, by decide, by decide +kernel⟩, by decide⟩
theorem mv_DL_span : mV y_DL_span := ⟨t_1395, t_1396⟩
abbrev y_DL_image : MethodName := ⟨"DonkeyLight", "image", "()I"⟩
theorem mo_DL_image : mOK y_DL_image prog_1_method_36_code 1 (some Jvm.ClassFile.FieldType.int) 0 := ⟨t_522, t_1, ⟨by decide, by decide, by decide +kernel⟩, by decide⟩
theorem mv_DL_image : mV y_DL_image := ⟨t_520, t_521⟩
abbrev y_DL_restore : MethodName := ⟨"DonkeyLight", "restore", "()I"⟩
theorem mo_DL_restore : mOK y_DL_restore prog_1_method_37_code 1 (some Jvm.ClassFile.FieldType.int) 0 := ⟨t_535, t_1, ⟨by decide, by decide, by decide +kernel⟩, by decide⟩
theorem mv_DL_restore : mV y_DL_restore := ⟨t_533, t_534⟩
abbrev y_DL_status : MethodName := ⟨"DonkeyLight", "status", "(I)I"⟩
theorem mo_DL_status : mOK y_DL_status prog_1_method_38_code 2 (some Jvm.ClassFile.FieldType.int) 1 := ⟨t_544, t_1, ⟨by decide, by decide, by decide +kernel⟩, by decide⟩
theorem mv_DL_status : mV y_DL_status := ⟨t_542, t_543⟩
abbrev y_DL_count : MethodName := ⟨"DonkeyLight", "count", "(I)I"⟩
theorem mo_DL_count : mOK y_DL_count prog_1_method_39_code 2 (some Jvm.ClassFile.FieldType.int) 1 := ⟨t_548, t_1, ⟨by decide, by decide, by decide +kernel⟩, by decide⟩
theorem mv_DL_count : mV y_DL_count := ⟨t_546, t_547⟩
abbrev y_DL_openText : MethodName := ⟨"DonkeyLight", "openText", "(II)V"⟩
theorem mo_DL_openText : mOK y_DL_openText prog_1_method_40_code 3 none 2 := ⟨t_560, t_1, ⟨by decide, by decide, by decide +kernel⟩, by decide⟩
theorem mv_DL_openText : mV y_DL_openText := ⟨t_559, u_2⟩
abbrev y_DL_needThere : MethodName := ⟨"DonkeyLight", "needThere", "(II)V"⟩
theorem mo_DL_needThere : mOK y_DL_needThere prog_1_method_41_code 3 none 2 := ⟨t_987, t_1, ⟨by decide, by decide, by decide +kernel⟩, by decide⟩
theorem mv_DL_needThere : mV y_DL_needThere := ⟨t_986, u_20⟩
abbrev y_DL_needWithin : MethodName := ⟨"DonkeyLight", "needWithin", "(III)V"⟩
theorem mo_DL_needWithin : mOK y_DL_needWithin prog_1_method_42_code 4 none 3 := ⟨t_565, t_1, ⟨by decide, by decide, by decide +kernel⟩, by decide⟩
theorem mv_DL_needWithin : mV y_DL_needWithin := ⟨t_564, u_3⟩
abbrev y_DL_needShips : MethodName := ⟨"DonkeyLight", "needShips", "(I)V"⟩
theorem mo_DL_needShips : mOK y_DL_needShips prog_1_method_43_code 2 none 1 := ⟨t_1093, t_1, ⟨by decide, by decide, by decide +kernel⟩, by decide⟩
theorem mv_DL_needShips : mV y_DL_needShips := ⟨t_1092, u_22⟩
abbrev y_DL_flashesSeen : MethodName := ⟨"DonkeyLight", "flashesSeen", "(II)I"⟩
theorem mo_DL_flashesSeen : mOK y_DL_flashesSeen prog_1_method_44_code 4 (some Jvm.ClassFile.FieldType.int) 2 := ⟨t_1049, t_1, ⟨by decide, by decide, by decide +kernel⟩, by decide⟩
theorem mv_DL_flashesSeen : mV y_DL_flashesSeen := ⟨t_1048, u_21⟩
abbrev y_DL_wreckNumber : MethodName := ⟨"DonkeyLight", "wreckNumber", "(III)I"⟩
theorem mo_DL_wreckNumber : mOK y_DL_wreckNumber prog_1_method_45_code 4 (some Jvm.ClassFile.FieldType.int) 3 := ⟨t_1343, t_1, ⟨by decide, by decide, by decide +kernel⟩, by decide⟩
theorem mv_DL_wreckNumber : mV y_DL_wreckNumber := ⟨t_1342, u_28⟩
abbrev y_DL_firstUnmade : MethodName := ⟨"DonkeyLight", "firstUnmade", "(I)I"⟩
theorem mo_DL_firstUnmade : mOK y_DL_firstUnmade prog_1_method_46_code 3 (some Jvm.ClassFile.FieldType.int) 1 := ⟨t_518, t_1, ⟨by decide, by decide, by decide +kernel⟩, by decide⟩
theorem mv_DL_firstUnmade : mV y_DL_firstUnmade := ⟨t_517, u_1⟩
abbrev y_DL_power : MethodName := ⟨"DonkeyLight", "power", "(II)J"⟩
theorem mo_DL_power : mOK y_DL_power prog_1_method_47_code 5 (some Jvm.ClassFile.FieldType.long) 2 := ⟨t_1228, t_1, ⟨by decide, by decide, by decide +kernel⟩, by decide⟩
abbrev y_DL_commonDivisor : MethodName := ⟨"DonkeyLight", "commonDivisor", "(JJ)J"⟩
theorem mo_DL_commonDivisor : mOK y_DL_commonDivisor prog_1_method_48_code 7 (some Jvm.ClassFile.FieldType.long) 2 := ⟨t_1231, t_1, ⟨by decide, by decide, by decide +kernel⟩, by decide⟩
abbrev y_DL_left : MethodName := ⟨"DonkeyLight", "left", "(II)I"⟩
theorem mo_DL_left : mOK y_DL_left prog_1_method_49_code 2 (some Jvm.ClassFile.FieldType.int) 2 := ⟨t_1114, t_1, ⟨by decide, by decide, by decide +kernel⟩, by decide⟩
abbrev y_DL_cut : MethodName := ⟨"DonkeyLight", "cut", "(II)I"⟩
theorem mo_DL_cut : mOK y_DL_cut prog_1_method_50_code 2 (some Jvm.ClassFile.FieldType.int) 2 := ⟨t_1117, t_1, ⟨by decide, by decide, by decide +kernel⟩, by decide⟩
abbrev y_DL_flashesIn : MethodName := ⟨"DonkeyLight", "flashesIn", "(II)Z"⟩
theorem mo_DL_flashesIn : mOK y_DL_flashesIn prog_1_method_51_code 2 (some Jvm.ClassFile.FieldType.boolean) 2 := ⟨t_513, t_1, ⟨by decide, by decide, by decide +kernel⟩, by decide⟩
abbrev y_DL_isSeen : MethodName := ⟨"DonkeyLight", "isSeen", "(IIIII)Z"⟩
theorem mo_DL_isSeen : mOK y_DL_isSeen prog_1_method_52_code 5 (some Jvm.ClassFile.FieldType.boolean) 5 := ⟨t_459, t_1, ⟨by decide, by decide, by decide +kernel⟩, by decide⟩
abbrev y_DL_hasBit : MethodName := ⟨"DonkeyLight", "hasBit", "(II)Z"⟩
theorem mo_DL_hasBit : mOK y_DL_hasBit prog_1_method_53_code 2 (some Jvm.ClassFile.FieldType.boolean) 2 := ⟨t_456, t_1, ⟨by decide, by decide, by decide +kernel⟩, by decide⟩
abbrev y_Mo_init : MethodName := ⟨"DonkeyLightModel", "<init>", "()V"⟩
theorem mo_Mo_init : mOK y_Mo_init prog_14_method_1_code 1 none 0 := ⟨t_1403, t_14, ⟨by decide, by decide, by decide +kernel⟩, by decide⟩
abbrev y_Mo_tellsNothing : MethodName := ⟨"DonkeyLightModel", "tellsNothing", "()V"⟩
theorem mo_Mo_tellsNothing : mOK y_Mo_tellsNothing prog_14_method_2_code 2 none 0 := ⟨t_1410, t_14, ⟨by decide, by decide, by decide +kernel⟩, by decide⟩
theorem mv_Mo_tellsNothing : mV y_Mo_tellsNothing := ⟨t_1409, u_30⟩
abbrev y_Mo_thrown : MethodName := ⟨"DonkeyLightModel", "thrown", "()I"⟩
theorem mo_Mo_thrown : mOK y_Mo_thrown prog_14_method_3_code 1 (some Jvm.ClassFile.FieldType.int) 0 := ⟨t_1572, t_14, ⟨by decide, by decide, by decide +kernel⟩, by decide⟩
theorem mv_Mo_thrown : mV y_Mo_thrown := ⟨t_1570, t_1571⟩
abbrev y_Mo_bad : MethodName := ⟨"DonkeyLightModel", "bad", "(ZII)Z"⟩
theorem mo_Mo_bad : mOK y_Mo_bad prog_14_method_4_code 4 (some Jvm.ClassFile.FieldType.boolean) 3 := ⟨t_1587, t_14, ⟨by decide, by decide, by decide +kernel⟩, by decide⟩
theorem mv_Mo_bad : mV y_Mo_bad := ⟨t_1586, u_32⟩
abbrev y_Mo_in : MethodName := ⟨"DonkeyLightModel", "in", "(III)Z"⟩
theorem mo_Mo_in : mOK y_Mo_in prog_14_method_5_code 3 (some Jvm.ClassFile.FieldType.boolean) 3 := ⟨t_1583, t_14, ⟨by decide, by decide, by decide +kernel⟩, by decide⟩
abbrev y_Mo_less : MethodName := ⟨"DonkeyLightModel", "less", "(II)I"⟩
theorem mo_Mo_less : mOK y_Mo_less prog_14_method_6_code 2 (some Jvm.ClassFile.FieldType.int) 2 := ⟨t_1751, t_14, ⟨by decide, by decide, by decide +kernel⟩, by decide⟩
abbrev y_Mo_more : MethodName := ⟨"DonkeyLightModel", "more", "(II)I"⟩
theorem mo_Mo_more : mOK y_Mo_more prog_14_method_7_code 2 (some Jvm.ClassFile.FieldType.int) 2 := ⟨t_1765, t_14, ⟨by decide, by decide, by decide +kernel⟩, by decide⟩
abbrev y_Mo_has : MethodName := ⟨"DonkeyLightModel", "has", "(II)Z"⟩
theorem mo_Mo_has : mOK y_Mo_has prog_14_method_8_code 2 (some Jvm.ClassFile.FieldType.boolean) 2 := ⟨t_1722, t_14, ⟨by decide, by decide, by decide +kernel⟩, by decide⟩
abbrev y_Mo_feed : MethodName := ⟨"DonkeyLightModel", "feed", "(IIIII)I"⟩
theorem mo_Mo_feed : mOK y_Mo_feed prog_14_method_9_code 8 (some Jvm.ClassFile.FieldType.int) 5 := ⟨t_1576, t_14, ⟨by decide, by decide, by decide +kernel⟩, by decide⟩
theorem mv_Mo_feed : mV y_Mo_feed := ⟨t_1574, t_1575⟩
abbrev y_Mo_byteAt : MethodName := ⟨"DonkeyLightModel", "byteAt", "(I)I"⟩
theorem mo_Mo_byteAt : mOK y_Mo_byteAt prog_14_method_10_code 2 (some Jvm.ClassFile.FieldType.int) 1 := ⟨t_1599, t_14, ⟨by decide, by decide, by decide +kernel⟩, by decide⟩
theorem mv_Mo_byteAt : mV y_Mo_byteAt := ⟨t_1598, u_35⟩
abbrev y_Mo_blanks : MethodName := ⟨"DonkeyLightModel", "blanks", "()V"⟩
theorem mo_Mo_blanks : mOK y_Mo_blanks prog_14_method_11_code 1 none 0 := ⟨t_1595, t_14, ⟨by decide, by decide, by decide +kernel⟩, by decide⟩
theorem mv_Mo_blanks : mV y_Mo_blanks := ⟨t_1594, u_34⟩
abbrev y_Mo_wrong : MethodName := ⟨"DonkeyLightModel", "wrong", "(II)V"⟩
theorem mo_Mo_wrong : mOK y_Mo_wrong prog_14_method_12_code 3 none 2 := ⟨t_1625, t_14, ⟨by decide, by decide, by decide +kernel⟩, by decide⟩
theorem mv_Mo_wrong : mV y_Mo_wrong := ⟨t_1624, u_40⟩
abbrev y_Mo_isDigit : MethodName := ⟨"DonkeyLightModel", "isDigit", "(I)Z"⟩
theorem mo_Mo_isDigit : mOK y_Mo_isDigit prog_14_method_13_code 1 (some Jvm.ClassFile.FieldType.boolean) 1 := ⟨t_1639, t_14, ⟨by decide, by decide, by decide +kernel⟩, by decide⟩
abbrev y_Mo_isSmall : MethodName := ⟨"DonkeyLightModel", "isSmall", "(I)Z"⟩
theorem mo_Mo_isSmall : mOK y_Mo_isSmall prog_14_method_14_code 1 (some Jvm.ClassFile.FieldType.boolean) 1 := ⟨t_1618, t_14, ⟨by decide, by decide, by decide +kernel⟩, by decide⟩
abbrev y_Mo_number : MethodName := ⟨"DonkeyLightModel", "number", "(II)I"⟩
theorem mo_Mo_number : mOK y_Mo_number prog_14_method_15_code 5 (some Jvm.ClassFile.FieldType.int) 2 := ⟨t_1636, t_14, ⟨by decide, by decide, by decide +kernel⟩, by decide⟩
theorem mv_Mo_number : mV y_Mo_number := ⟨t_1635, u_42⟩
abbrev y_Mo_wordHere : MethodName := ⟨"DonkeyLightModel", "wordHere", "()I"⟩
theorem mo_Mo_wordHere : mOK y_Mo_wordHere prog_14_method_16_code 3 (some Jvm.ClassFile.FieldType.int) 0 := ⟨t_1615, t_14, ⟨by decide, by decide, by decide +kernel⟩, by decide⟩
theorem mv_Mo_wordHere : mV y_Mo_wordHere := ⟨t_1614, u_39⟩
abbrev y_Mo_six : MethodName := ⟨"DonkeyLightModel", "six", "(IIIIII)I"⟩
theorem mo_Mo_six : mOK y_Mo_six prog_14_method_17_code 7 (some Jvm.ClassFile.FieldType.int) 6 := ⟨t_1621, t_14, ⟨by decide, by decide, by decide +kernel⟩, by decide⟩
abbrev y_Mo_isWord : MethodName := ⟨"DonkeyLightModel", "isWord", "(IIIIII)Z"⟩
theorem mo_Mo_isWord : mOK y_Mo_isWord prog_14_method_18_code 7 (some Jvm.ClassFile.FieldType.boolean) 6 := ⟨t_1611, t_14, ⟨by decide, by decide, by decide +kernel⟩, by decide⟩
theorem mv_Mo_isWord : mV y_Mo_isWord := ⟨t_1610, u_38⟩
abbrev y_Mo_skipWord : MethodName := ⟨"DonkeyLightModel", "skipWord", "()V"⟩
theorem mo_Mo_skipWord : mOK y_Mo_skipWord prog_14_method_19_code 1 none 0 := ⟨t_1632, t_14, ⟨by decide, by decide, by decide +kernel⟩, by decide⟩
theorem mv_Mo_skipWord : mV y_Mo_skipWord := ⟨t_1631, u_41⟩
abbrev y_Mo_takes : MethodName := ⟨"DonkeyLightModel", "takes", "(IIIIII)Z"⟩
theorem mo_Mo_takes : mOK y_Mo_takes prog_14_method_20_code 8 (some Jvm.ClassFile.FieldType.boolean) 6 := ⟨t_1680, t_14, ⟨by decide, by decide, by decide +kernel⟩, by decide⟩
theorem mv_Mo_takes : mV y_Mo_takes := ⟨t_1679, u_51⟩
abbrev y_Mo_sign : MethodName := ⟨"DonkeyLightModel", "sign", "(I)V"⟩
theorem mo_Mo_sign : mOK y_Mo_sign prog_14_method_21_code 2 none 1 := ⟨t_1644, t_14, ⟨by decide, by decide, by decide +kernel⟩, by decide⟩
theorem mv_Mo_sign : mV y_Mo_sign := ⟨t_1643, u_43⟩
abbrev y_Mo_takesSign : MethodName := ⟨"DonkeyLightModel", "takesSign", "(I)Z"⟩
theorem mo_Mo_takesSign : mOK y_Mo_takesSign prog_14_method_22_code 3 (some Jvm.ClassFile.FieldType.boolean) 1 := ⟨t_1688, t_14, ⟨by decide, by decide, by decide +kernel⟩, by decide⟩
theorem mv_Mo_takesSign : mV y_Mo_takesSign := ⟨t_1687, u_53⟩
abbrev y_Mo_starts : MethodName := ⟨"DonkeyLightModel", "starts", "(I)V"⟩
theorem mo_Mo_starts : mOK y_Mo_starts prog_14_method_23_code 2 none 1 := ⟨t_1591, t_14, ⟨by decide, by decide, by decide +kernel⟩, by decide⟩
theorem mv_Mo_starts : mV y_Mo_starts := ⟨t_1590, u_33⟩
abbrev y_Mo_ends : MethodName := ⟨"DonkeyLightModel", "ends", "()I"⟩
theorem mo_Mo_ends : mOK y_Mo_ends prog_14_method_24_code 1 (some Jvm.ClassFile.FieldType.int) 0 := ⟨t_1648, t_14, ⟨by decide, by decide, by decide +kernel⟩, by decide⟩
theorem mv_Mo_ends : mV y_Mo_ends := ⟨t_1647, u_44⟩
abbrev y_Mo_kindHere : MethodName := ⟨"DonkeyLightModel", "kindHere", "()I"⟩
theorem mo_Mo_kindHere : mOK y_Mo_kindHere prog_14_method_25_code 1 (some Jvm.ClassFile.FieldType.int) 0 := ⟨t_1607, t_14, ⟨by decide, by decide, by decide +kernel⟩, by decide⟩
theorem mv_Mo_kindHere : mV y_Mo_kindHere := ⟨t_1606, u_37⟩
abbrev y_Mo_mostOf : MethodName := ⟨"DonkeyLightModel", "mostOf", "(I)I"⟩
theorem mo_Mo_mostOf : mOK y_Mo_mostOf prog_14_method_26_code 1 (some Jvm.ClassFile.FieldType.int) 1 := ⟨t_1628, t_14, ⟨by decide, by decide, by decide +kernel⟩, by decide⟩
abbrev y_Mo_clause : MethodName := ⟨"DonkeyLightModel", "clause", "()V"⟩
theorem mo_Mo_clause : mOK y_Mo_clause prog_14_method_27_code 5 none 0 := ⟨t_1603, t_14, ⟨by decide, by decide, by decide +kernel⟩, by decide⟩
theorem mv_Mo_clause : mV y_Mo_clause := ⟨t_1602, u_36⟩
abbrev y_Mo_coast : MethodName := ⟨"DonkeyLightModel", "coast", "(I)I"⟩
theorem mo_Mo_coast : mOK y_Mo_coast prog_14_method_28_code 2 (some Jvm.ClassFile.FieldType.int) 1 := ⟨t_1580, t_14, ⟨by decide, by decide, by decide +kernel⟩, by decide⟩
theorem mv_Mo_coast : mV y_Mo_coast := ⟨t_1578, t_1579⟩
abbrev y_Mo_lays : MethodName := ⟨"DonkeyLightModel", "lays", "([[I[[II)V"⟩
theorem mo_Mo_lays : mOK y_Mo_lays prog_14_method_29_code 5 none 3 := ⟨t_1417, t_14, ⟨by decide, by decide, by decide +kernel⟩, by decide⟩
abbrev y_Mo_copies : MethodName := ⟨"DonkeyLightModel", "copies", "([I[I)V"⟩
theorem mo_Mo_copies : mOK y_Mo_copies prog_14_method_30_code 3 none 2 := ⟨t_1711, t_14, ⟨by decide, by decide, by decide +kernel⟩, by decide⟩
abbrev y_Mo_beginsAnew : MethodName := ⟨"DonkeyLightModel", "beginsAnew", "()V"⟩
theorem mo_Mo_beginsAnew : mOK y_Mo_beginsAnew prog_14_method_31_code 2 none 0 := ⟨t_1414, t_14, ⟨by decide, by decide, by decide +kernel⟩, by decide⟩
theorem mv_Mo_beginsAnew : mV y_Mo_beginsAnew := ⟨t_1413, u_31⟩
abbrev y_Mo_notes : MethodName := ⟨"DonkeyLightModel", "notes", "(II)V"⟩
theorem mo_Mo_notes : mOK y_Mo_notes prog_14_method_32_code 3 none 2 := ⟨t_1672, t_14, ⟨by decide, by decide, by decide +kernel⟩, by decide⟩
theorem mv_Mo_notes : mV y_Mo_notes := ⟨t_1671, u_49⟩
abbrev y_Mo_opensOne : MethodName := ⟨"DonkeyLightModel", "opensOne", "()Z"⟩
theorem mo_Mo_opensOne : mOK y_Mo_opensOne prog_14_method_33_code 1 (some Jvm.ClassFile.FieldType.boolean) 0 := ⟨t_1668, t_14, ⟨by decide, by decide, by decide +kernel⟩, by decide⟩
theorem mv_Mo_opensOne : mV y_Mo_opensOne := ⟨t_1667, u_48⟩
abbrev y_Mo_sum : MethodName := ⟨"DonkeyLightModel", "sum", "()V"⟩
theorem mo_Mo_sum : mOK y_Mo_sum prog_14_method_34_code 2 none 0 := ⟨t_1656, t_14, ⟨by decide, by decide, by decide +kernel⟩, by decide⟩
theorem mv_Mo_sum : mV y_Mo_sum := ⟨t_1655, u_45⟩
abbrev y_Mo_product : MethodName := ⟨"DonkeyLightModel", "product", "()V"⟩
theorem mo_Mo_product : mOK y_Mo_product prog_14_method_35_code 2 none 0 := ⟨t_1660, t_14, ⟨by decide, by decide, by decide +kernel⟩, by decide⟩
theorem mv_Mo_product : mV y_Mo_product := ⟨t_1659, u_46⟩
abbrev y_Mo_knownHere : MethodName := ⟨"DonkeyLightModel", "knownHere", "()I"⟩
theorem mo_Mo_knownHere : mOK y_Mo_knownHere prog_14_method_36_code 1 (some Jvm.ClassFile.FieldType.int) 0 := ⟨t_1676, t_14, ⟨by decide, by decide, by decide +kernel⟩, by decide⟩
theorem mv_Mo_knownHere : mV y_Mo_knownHere := ⟨t_1675, u_50⟩
abbrev y_Mo_isDraught : MethodName := ⟨"DonkeyLightModel", "isDraught", "()Z"⟩
theorem mo_Mo_isDraught : mOK y_Mo_isDraught prog_14_method_37_code 4 (some Jvm.ClassFile.FieldType.boolean) 0 := ⟨t_1684, t_14, ⟨by decide, by decide, by decide +kernel⟩, by decide⟩
theorem mv_Mo_isDraught : mV y_Mo_isDraught := ⟨t_1683, u_52⟩
abbrev y_Mo_one : MethodName := ⟨"DonkeyLightModel", "one", "()V"⟩
theorem mo_Mo_one : mOK y_Mo_one prog_14_method_38_code 3 none 0 := ⟨t_1664, t_14, ⟨by decide, by decide, by decide +kernel⟩, by decide⟩
theorem mv_Mo_one : mV y_Mo_one := ⟨t_1663, u_47⟩
abbrev y_Mo_law : MethodName := ⟨"DonkeyLightModel", "law", "(I)I"⟩
theorem mo_Mo_law : mOK y_Mo_law prog_14_method_39_code 2 (some Jvm.ClassFile.FieldType.int) 1 := ⟨t_1652, t_14, ⟨by decide, by decide, by decide +kernel⟩, by decide⟩
theorem mv_Mo_law : mV y_Mo_law := ⟨t_1650, t_1651⟩
abbrev y_Mo_by : MethodName := ⟨"DonkeyLightModel", "by", "(III)I"⟩
theorem mo_Mo_by : mOK y_Mo_by prog_14_method_40_code 3 (some Jvm.ClassFile.FieldType.int) 3 := ⟨t_1762, t_14, ⟨by decide, by decide, by decide +kernel⟩, by decide⟩
abbrev y_Mo_byLaw : MethodName := ⟨"DonkeyLightModel", "byLaw", "()I"⟩
theorem mo_Mo_byLaw : mOK y_Mo_byLaw prog_14_method_41_code 3 (some Jvm.ClassFile.FieldType.int) 0 := ⟨t_1759, t_14, ⟨by decide, by decide, by decide +kernel⟩, by decide⟩
theorem mv_Mo_byLaw : mV y_Mo_byLaw := ⟨t_1758, u_64⟩
abbrev y_Mo_stepHere : MethodName := ⟨"DonkeyLightModel", "stepHere", "()I"⟩
theorem mo_Mo_stepHere : mOK y_Mo_stepHere prog_14_method_42_code 1 (some Jvm.ClassFile.FieldType.int) 0 := ⟨t_1708, t_14, ⟨by decide, by decide, by decide +kernel⟩, by decide⟩
theorem mv_Mo_stepHere : mV y_Mo_stepHere := ⟨t_1707, u_55⟩
abbrev y_Mo_readsStep : MethodName := ⟨"DonkeyLightModel", "readsStep", "()V"⟩
theorem mo_Mo_readsStep : mOK y_Mo_readsStep prog_14_method_43_code 3 none 0 := ⟨t_1704, t_14, ⟨by decide, by decide, by decide +kernel⟩, by decide⟩
theorem mv_Mo_readsStep : mV y_Mo_readsStep := ⟨t_1703, u_54⟩
abbrev y_Mo_log : MethodName := ⟨"DonkeyLightModel", "log", "(I)I"⟩
theorem mo_Mo_log : mOK y_Mo_log prog_14_method_44_code 6 (some Jvm.ClassFile.FieldType.int) 1 := ⟨t_1692, t_14, ⟨by decide, by decide, by decide +kernel⟩, by decide⟩
theorem mv_Mo_log : mV y_Mo_log := ⟨t_1690, t_1691⟩
abbrev y_Mo_fault : MethodName := ⟨"DonkeyLightModel", "fault", "()I"⟩
theorem mo_Mo_fault : mOK y_Mo_fault prog_14_method_45_code 1 (some Jvm.ClassFile.FieldType.int) 0 := ⟨t_1696, t_14, ⟨by decide, by decide, by decide +kernel⟩, by decide⟩
theorem mv_Mo_fault : mV y_Mo_fault := ⟨t_1694, t_1695⟩
abbrev y_Mo_isFlash : MethodName := ⟨"DonkeyLightModel", "isFlash", "(II)Z"⟩
theorem mo_Mo_isFlash : mOK y_Mo_isFlash prog_14_method_46_code 2 (some Jvm.ClassFile.FieldType.boolean) 2 := ⟨t_1744, t_14, ⟨by decide, by decide, by decide +kernel⟩, by decide⟩
abbrev y_Mo_away : MethodName := ⟨"DonkeyLightModel", "away", "(II)I"⟩
theorem mo_Mo_away : mOK y_Mo_away prog_14_method_47_code 2 (some Jvm.ClassFile.FieldType.int) 2 := ⟨t_1741, t_14, ⟨by decide, by decide, by decide +kernel⟩, by decide⟩
abbrev y_Mo_sightOf : MethodName := ⟨"DonkeyLightModel", "sightOf", "([I)I"⟩
theorem mo_Mo_sightOf : mOK y_Mo_sightOf prog_14_method_48_code 2 (some Jvm.ClassFile.FieldType.int) 1 := ⟨t_1738, t_14, ⟨by decide, by decide, by decide +kernel⟩, by decide⟩
theorem mv_Mo_sightOf : mV y_Mo_sightOf := ⟨t_1737, u_61⟩
abbrev y_Mo_donkeyAt : MethodName := ⟨"DonkeyLightModel", "donkeyAt", "([III)I"⟩
theorem mo_Mo_donkeyAt : mOK y_Mo_donkeyAt prog_14_method_49_code 4 (some Jvm.ClassFile.FieldType.int) 3 := ⟨t_1748, t_14, ⟨by decide, by decide, by decide +kernel⟩, by decide⟩
theorem mv_Mo_donkeyAt : mV y_Mo_donkeyAt := ⟨t_1747, u_62⟩
abbrev y_Mo_seenBy : MethodName := ⟨"DonkeyLightModel", "seenBy", "([III)I"⟩
theorem mo_Mo_seenBy : mOK y_Mo_seenBy prog_14_method_50_code 7 (some Jvm.ClassFile.FieldType.int) 3 := ⟨t_1734, t_14, ⟨by decide, by decide, by decide +kernel⟩, by decide⟩
theorem mv_Mo_seenBy : mV y_Mo_seenBy := ⟨t_1733, u_60⟩
abbrev y_Mo_isIn : MethodName := ⟨"DonkeyLightModel", "isIn", "(IIIIIII)Z"⟩
theorem mo_Mo_isIn : mOK y_Mo_isIn prog_14_method_51_code 8 (some Jvm.ClassFile.FieldType.boolean) 7 := ⟨t_1755, t_14, ⟨by decide, by decide, by decide +kernel⟩, by decide⟩
theorem mv_Mo_isIn : mV y_Mo_isIn := ⟨t_1754, u_63⟩
abbrev y_Mo_isReef : MethodName := ⟨"DonkeyLightModel", "isReef", "(II)Z"⟩
theorem mo_Mo_isReef : mOK y_Mo_isReef prog_14_method_52_code 3 (some Jvm.ClassFile.FieldType.boolean) 2 := ⟨t_1769, t_14, ⟨by decide, by decide, by decide +kernel⟩, by decide⟩
theorem mv_Mo_isReef : mV y_Mo_isReef := ⟨t_1768, u_65⟩
abbrev y_Mo_tries : MethodName := ⟨"DonkeyLightModel", "tries", "([II)V"⟩
theorem mo_Mo_tries : mOK y_Mo_tries prog_14_method_53_code 6 none 2 := ⟨t_1730, t_14, ⟨by decide, by decide, by decide +kernel⟩, by decide⟩
theorem mv_Mo_tries : mV y_Mo_tries := ⟨t_1729, u_59⟩
abbrev y_Mo_aliveOf : MethodName := ⟨"DonkeyLightModel", "aliveOf", "(I)I"⟩
theorem mo_Mo_aliveOf : mOK y_Mo_aliveOf prog_14_method_54_code 2 (some Jvm.ClassFile.FieldType.int) 1 := ⟨t_1773, t_14, ⟨by decide, by decide, by decide +kernel⟩, by decide⟩
theorem mv_Mo_aliveOf : mV y_Mo_aliveOf := ⟨t_1772, u_66⟩
abbrev y_Mo_parishBy : MethodName := ⟨"DonkeyLightModel", "parishBy", "(I)I"⟩
theorem mo_Mo_parishBy : mOK y_Mo_parishBy prog_14_method_55_code 2 (some Jvm.ClassFile.FieldType.int) 1 := ⟨t_1820, t_14, ⟨by decide, by decide, by decide +kernel⟩, by decide⟩
theorem mv_Mo_parishBy : mV y_Mo_parishBy := ⟨t_1819, u_68⟩
abbrev y_Mo_passes : MethodName := ⟨"DonkeyLightModel", "passes", "([II)V"⟩
theorem mo_Mo_passes : mOK y_Mo_passes prog_14_method_56_code 3 none 2 := ⟨t_1726, t_14, ⟨by decide, by decide, by decide +kernel⟩, by decide⟩
theorem mv_Mo_passes : mV y_Mo_passes := ⟨t_1725, u_58⟩
abbrev y_Mo_nightEnds : MethodName := ⟨"DonkeyLightModel", "nightEnds", "([I)V"⟩
theorem mo_Mo_nightEnds : mOK y_Mo_nightEnds prog_14_method_57_code 1 none 1 := ⟨t_1776, t_14, ⟨by decide, by decide, by decide +kernel⟩, by decide⟩
abbrev y_Mo_does : MethodName := ⟨"DonkeyLightModel", "does", "([I[I)Z"⟩
theorem mo_Mo_does : mOK y_Mo_does prog_14_method_58_code 4 (some Jvm.ClassFile.FieldType.boolean) 2 := ⟨t_1719, t_14, ⟨by decide, by decide, by decide +kernel⟩, by decide⟩
theorem mv_Mo_does : mV y_Mo_does := ⟨t_1718, u_57⟩
abbrev y_Mo_goes : MethodName := ⟨"DonkeyLightModel", "goes", "(II)V"⟩
theorem mo_Mo_goes : mOK y_Mo_goes prog_14_method_59_code 5 none 2 := ⟨t_1715, t_14, ⟨by decide, by decide, by decide +kernel⟩, by decide⟩
theorem mv_Mo_goes : mV y_Mo_goes := ⟨t_1714, u_56⟩
abbrev y_Mo_work : MethodName := ⟨"DonkeyLightModel", "work", "(I)I"⟩
theorem mo_Mo_work : mOK y_Mo_work prog_14_method_60_code 2 (some Jvm.ClassFile.FieldType.int) 1 := ⟨t_1700, t_14, ⟨by decide, by decide, by decide +kernel⟩, by decide⟩
theorem mv_Mo_work : mV y_Mo_work := ⟨t_1698, t_1699⟩
abbrev y_Mo_undo : MethodName := ⟨"DonkeyLightModel", "undo", "()I"⟩
theorem mo_Mo_undo : mOK y_Mo_undo prog_14_method_61_code 1 (some Jvm.ClassFile.FieldType.int) 0 := ⟨t_1780, t_14, ⟨by decide, by decide, by decide +kernel⟩, by decide⟩
theorem mv_Mo_undo : mV y_Mo_undo := ⟨t_1778, t_1779⟩
abbrev y_Mo_told : MethodName := ⟨"DonkeyLightModel", "told", "(I)I"⟩
theorem mo_Mo_told : mOK y_Mo_told prog_14_method_62_code 2 (some Jvm.ClassFile.FieldType.int) 1 := ⟨t_1784, t_14, ⟨by decide, by decide, by decide +kernel⟩, by decide⟩
theorem mv_Mo_told : mV y_Mo_told := ⟨t_1782, t_1783⟩
abbrev y_Mo_isNo : MethodName := ⟨"DonkeyLightModel", "isNo", "(II)Z"⟩
theorem mo_Mo_isNo : mOK y_Mo_isNo prog_14_method_63_code 3 (some Jvm.ClassFile.FieldType.boolean) 2 := ⟨t_1792, t_14, ⟨by decide, by decide, by decide +kernel⟩, by decide⟩
theorem mv_Mo_isNo : mV y_Mo_isNo := ⟨t_1791, u_67⟩
abbrev y_Mo_cell : MethodName := ⟨"DonkeyLightModel", "cell", "(II)I"⟩
theorem mo_Mo_cell : mOK y_Mo_cell prog_14_method_64_code 5 (some Jvm.ClassFile.FieldType.int) 2 := ⟨t_1788, t_14, ⟨by decide, by decide, by decide +kernel⟩, by decide⟩
theorem mv_Mo_cell : mV y_Mo_cell := ⟨t_1786, t_1787⟩
abbrev y_Mo_light : MethodName := ⟨"DonkeyLightModel", "light", "(II)I"⟩
theorem mo_Mo_light : mOK y_Mo_light prog_14_method_65_code 3 (some Jvm.ClassFile.FieldType.int) 2 := ⟨t_1796, t_14, ⟨by decide, by decide, by decide +kernel⟩, by decide⟩
theorem mv_Mo_light : mV y_Mo_light := ⟨t_1794, t_1795⟩
abbrev y_Mo_donkey : MethodName := ⟨"DonkeyLightModel", "donkey", "(II)I"⟩
theorem mo_Mo_donkey : mOK y_Mo_donkey prog_14_method_66_code 3 (some Jvm.ClassFile.FieldType.int) 2 := ⟨t_1800, t_14, ⟨by decide, by decide, by decide +kernel⟩, by decide⟩
theorem mv_Mo_donkey : mV y_Mo_donkey := ⟨t_1798, t_1799⟩
abbrev y_Mo_ship : MethodName := ⟨"DonkeyLightModel", "ship", "(II)I"⟩
theorem mo_Mo_ship : mOK y_Mo_ship prog_14_method_67_code 3 (some Jvm.ClassFile.FieldType.int) 2 := ⟨t_1804, t_14, ⟨by decide, by decide, by decide +kernel⟩, by decide⟩
theorem mv_Mo_ship : mV y_Mo_ship := ⟨t_1802, t_1803⟩
abbrev y_Mo_seen : MethodName := ⟨"DonkeyLightModel", "seen", "(II)I"⟩
theorem mo_Mo_seen : mOK y_Mo_seen prog_14_method_68_code 3 (some Jvm.ClassFile.FieldType.int) 2 := ⟨t_1808, t_14, ⟨by decide, by decide, by decide +kernel⟩, by decide⟩
theorem mv_Mo_seen : mV y_Mo_seen := ⟨t_1806, t_1807⟩
abbrev y_Mo_would : MethodName := ⟨"DonkeyLightModel", "would", "(IIIIIII)Z"⟩
theorem mo_Mo_would : mOK y_Mo_would prog_14_method_69_code 8 (some Jvm.ClassFile.FieldType.boolean) 7 := ⟨t_1812, t_14, ⟨by decide, by decide, by decide +kernel⟩, by decide⟩
theorem mv_Mo_would : mV y_Mo_would := ⟨t_1810, t_1811⟩
abbrev y_Mo_tried : MethodName := ⟨"DonkeyLightModel", "tried", "(II)I"⟩
theorem mo_Mo_tried : mOK y_Mo_tried prog_14_method_70_code 3 (some Jvm.ClassFile.FieldType.int) 2 := ⟨t_1816, t_14, ⟨by decide, by decide, by decide +kernel⟩, by decide⟩
theorem mv_Mo_tried : mV y_Mo_tried := ⟨t_1814, t_1815⟩
abbrev y_Mo_safeBy : MethodName := ⟨"DonkeyLightModel", "safeBy", "([I)I"⟩
theorem mo_Mo_safeBy : mOK y_Mo_safeBy prog_14_method_71_code 4 (some Jvm.ClassFile.FieldType.int) 1 := ⟨t_1828, t_14, ⟨by decide, by decide, by decide +kernel⟩, by decide⟩
theorem mv_Mo_safeBy : mV y_Mo_safeBy := ⟨t_1827, u_69⟩
abbrev y_Mo_safe : MethodName := ⟨"DonkeyLightModel", "safe", "()I"⟩
theorem mo_Mo_safe : mOK y_Mo_safe prog_14_method_72_code 1 (some Jvm.ClassFile.FieldType.int) 0 := ⟨t_1824, t_14, ⟨by decide, by decide, by decide +kernel⟩, by decide⟩
theorem mv_Mo_safe : mV y_Mo_safe := ⟨t_1822, t_1823⟩
abbrev y_Mo_cargoBy : MethodName := ⟨"DonkeyLightModel", "cargoBy", "([II)I"⟩
theorem mo_Mo_cargoBy : mOK y_Mo_cargoBy prog_14_method_73_code 5 (some Jvm.ClassFile.FieldType.int) 2 := ⟨t_1836, t_14, ⟨by decide, by decide, by decide +kernel⟩, by decide⟩
theorem mv_Mo_cargoBy : mV y_Mo_cargoBy := ⟨t_1835, u_70⟩
abbrev y_Mo_put : MethodName := ⟨"DonkeyLightModel", "put", "(II)I"⟩
theorem mo_Mo_put : mOK y_Mo_put prog_14_method_74_code 10 (some Jvm.ClassFile.FieldType.int) 2 := ⟨t_1832, t_14, ⟨by decide, by decide, by decide +kernel⟩, by decide⟩
theorem mv_Mo_put : mV y_Mo_put := ⟨t_1830, t_1831⟩
abbrev y_Mo_ones : MethodName := ⟨"DonkeyLightModel", "ones", "(I)I"⟩
theorem mo_Mo_ones : mOK y_Mo_ones prog_14_method_75_code 3 (some Jvm.ClassFile.FieldType.int) 1 := ⟨t_1843, t_14, ⟨by decide, by decide, by decide +kernel⟩, by decide⟩
abbrev y_Mo_save : MethodName := ⟨"DonkeyLightModel", "save", "(I)I"⟩
theorem mo_Mo_save : mOK y_Mo_save prog_14_method_76_code 8 (some Jvm.ClassFile.FieldType.int) 1 := ⟨t_1840, t_14, ⟨by decide, by decide, by decide +kernel⟩, by decide⟩
theorem mv_Mo_save : mV y_Mo_save := ⟨t_1838, t_1839⟩
abbrev y_Mo_isLogged : MethodName := ⟨"DonkeyLightModel", "isLogged", "(II)Z"⟩
theorem mo_Mo_isLogged : mOK y_Mo_isLogged prog_14_method_77_code 4 (some Jvm.ClassFile.FieldType.boolean) 2 := ⟨t_1851, t_14, ⟨by decide, by decide, by decide +kernel⟩, by decide⟩
theorem mv_Mo_isLogged : mV y_Mo_isLogged := ⟨t_1850, u_71⟩
abbrev y_Mo_fits : MethodName := ⟨"DonkeyLightModel", "fits", "(I)I"⟩
theorem mo_Mo_fits : mOK y_Mo_fits prog_14_method_78_code 6 (some Jvm.ClassFile.FieldType.int) 1 := ⟨t_1847, t_14, ⟨by decide, by decide, by decide +kernel⟩, by decide⟩
theorem mv_Mo_fits : mV y_Mo_fits := ⟨t_1845, t_1846⟩
abbrev y_Mo_isTold : MethodName := ⟨"DonkeyLightModel", "isTold", "(I)Z"⟩
theorem mo_Mo_isTold : mOK y_Mo_isTold prog_14_method_79_code 3 (some Jvm.ClassFile.FieldType.boolean) 1 := ⟨t_1859, t_14, ⟨by decide, by decide, by decide +kernel⟩, by decide⟩
theorem mv_Mo_isTold : mV y_Mo_isTold := ⟨t_1858, u_72⟩
abbrev y_Mo_worstAt : MethodName := ⟨"DonkeyLightModel", "worstAt", "(I)I"⟩
theorem mo_Mo_worstAt : mOK y_Mo_worstAt prog_14_method_80_code 6 (some Jvm.ClassFile.FieldType.int) 1 := ⟨t_1863, t_14, ⟨by decide, by decide, by decide +kernel⟩, by decide⟩
theorem mv_Mo_worstAt : mV y_Mo_worstAt := ⟨t_1862, u_73⟩
abbrev y_Mo_look : MethodName := ⟨"DonkeyLightModel", "look", "(I)I"⟩
theorem mo_Mo_look : mOK y_Mo_look prog_14_method_81_code 6 (some Jvm.ClassFile.FieldType.int) 1 := ⟨t_1855, t_14, ⟨by decide, by decide, by decide +kernel⟩, by decide⟩
theorem mv_Mo_look : mV y_Mo_look := ⟨t_1853, t_1854⟩
abbrev y_Mo_isMade : MethodName := ⟨"DonkeyLightModel", "isMade", "(II)Z"⟩
theorem mo_Mo_isMade : mOK y_Mo_isMade prog_14_method_82_code 7 (some Jvm.ClassFile.FieldType.boolean) 2 := ⟨t_1875, t_14, ⟨by decide, by decide, by decide +kernel⟩, by decide⟩
theorem mv_Mo_isMade : mV y_Mo_isMade := ⟨t_1874, u_75⟩
abbrev y_Mo_codesOf : MethodName := ⟨"DonkeyLightModel", "codesOf", "(II)I"⟩
theorem mo_Mo_codesOf : mOK y_Mo_codesOf prog_14_method_83_code 6 (some Jvm.ClassFile.FieldType.int) 2 := ⟨t_1871, t_14, ⟨by decide, by decide, by decide +kernel⟩, by decide⟩
theorem mv_Mo_codesOf : mV y_Mo_codesOf := ⟨t_1870, u_74⟩
abbrev y_Mo_code : MethodName := ⟨"DonkeyLightModel", "code", "(II)I"⟩
theorem mo_Mo_code : mOK y_Mo_code prog_14_method_84_code 3 (some Jvm.ClassFile.FieldType.int) 2 := ⟨t_1867, t_14, ⟨by decide, by decide, by decide +kernel⟩, by decide⟩
theorem mv_Mo_code : mV y_Mo_code := ⟨t_1865, t_1866⟩
abbrev y_Mo_shortest : MethodName := ⟨"DonkeyLightModel", "shortest", "()I"⟩
theorem mo_Mo_shortest : mOK y_Mo_shortest prog_14_method_85_code 2 (some Jvm.ClassFile.FieldType.int) 0 := ⟨t_1879, t_14, ⟨by decide, by decide, by decide +kernel⟩, by decide⟩
theorem mv_Mo_shortest : mV y_Mo_shortest := ⟨t_1877, t_1878⟩
abbrev y_Mo_lostBy : MethodName := ⟨"DonkeyLightModel", "lostBy", "(III)J"⟩
theorem mo_Mo_lostBy : mOK y_Mo_lostBy prog_14_method_86_code 6 (some Jvm.ClassFile.FieldType.long) 3 := ⟨t_1886, t_14, ⟨by decide, by decide, by decide +kernel⟩, by decide⟩
abbrev y_Mo_wink : MethodName := ⟨"DonkeyLightModel", "wink", "(IIIIII)J"⟩
theorem mo_Mo_wink : mOK y_Mo_wink prog_14_method_87_code 17 (some Jvm.ClassFile.FieldType.long) 6 := ⟨t_1883, t_14, ⟨by decide, by decide, by decide +kernel⟩, by decide⟩
theorem mv_Mo_wink : mV y_Mo_wink := ⟨t_1881, t_1882⟩
abbrev y_Mo_carry : MethodName := ⟨"DonkeyLightModel", "carry", "(II)I"⟩
theorem mo_Mo_carry : mOK y_Mo_carry prog_14_method_88_code 3 (some Jvm.ClassFile.FieldType.int) 2 := ⟨t_1898, t_14, ⟨by decide, by decide, by decide +kernel⟩, by decide⟩
theorem mv_Mo_carry : mV y_Mo_carry := ⟨t_1897, u_77⟩
abbrev y_Mo_isRest : MethodName := ⟨"DonkeyLightModel", "isRest", "(II)Z"⟩
theorem mo_Mo_isRest : mOK y_Mo_isRest prog_14_method_89_code 4 (some Jvm.ClassFile.FieldType.boolean) 2 := ⟨t_1894, t_14, ⟨by decide, by decide, by decide +kernel⟩, by decide⟩
theorem mv_Mo_isRest : mV y_Mo_isRest := ⟨t_1893, u_76⟩
abbrev y_Mo_carriers : MethodName := ⟨"DonkeyLightModel", "carriers", "(I)I"⟩
theorem mo_Mo_carriers : mOK y_Mo_carriers prog_14_method_90_code 7 (some Jvm.ClassFile.FieldType.int) 1 := ⟨t_1890, t_14, ⟨by decide, by decide, by decide +kernel⟩, by decide⟩
theorem mv_Mo_carriers : mV y_Mo_carriers := ⟨t_1888, t_1889⟩
abbrev y_Mo_headsIn : MethodName := ⟨"DonkeyLightModel", "headsIn", "()I"⟩
theorem mo_Mo_headsIn : mOK y_Mo_headsIn prog_14_method_91_code 3 (some Jvm.ClassFile.FieldType.int) 0 := ⟨t_1906, t_14, ⟨by decide, by decide, by decide +kernel⟩, by decide⟩
theorem mv_Mo_headsIn : mV y_Mo_headsIn := ⟨t_1905, u_78⟩
abbrev y_Mo_share : MethodName := ⟨"DonkeyLightModel", "share", "(II)I"⟩
theorem mo_Mo_share : mOK y_Mo_share prog_14_method_92_code 9 (some Jvm.ClassFile.FieldType.int) 2 := ⟨t_1902, t_14, ⟨by decide, by decide, by decide +kernel⟩, by decide⟩
theorem mv_Mo_share : mV y_Mo_share := ⟨t_1900, t_1901⟩
abbrev y_Mo_drawn : MethodName := ⟨"DonkeyLightModel", "drawn", "(I)I"⟩
theorem mo_Mo_drawn : mOK y_Mo_drawn prog_14_method_93_code 4 (some Jvm.ClassFile.FieldType.int) 1 := ⟨t_1910, t_14, ⟨by decide, by decide, by decide +kernel⟩, by decide⟩
theorem mv_Mo_drawn : mV y_Mo_drawn := ⟨t_1908, t_1909⟩
abbrev y_Mo_flash : MethodName := ⟨"DonkeyLightModel", "flash", "(II)I"⟩
theorem mo_Mo_flash : mOK y_Mo_flash prog_14_method_94_code 4 (some Jvm.ClassFile.FieldType.int) 2 := ⟨t_1914, t_14, ⟨by decide, by decide, by decide +kernel⟩, by decide⟩
theorem mv_Mo_flash : mV y_Mo_flash := ⟨t_1912, t_1913⟩
abbrev y_Mo_alike : MethodName := ⟨"DonkeyLightModel", "alike", "(III)I"⟩
theorem mo_Mo_alike : mOK y_Mo_alike prog_14_method_95_code 9 (some Jvm.ClassFile.FieldType.int) 3 := ⟨t_1918, t_14, ⟨by decide, by decide, by decide +kernel⟩, by decide⟩
theorem mv_Mo_alike : mV y_Mo_alike := ⟨t_1916, t_1917⟩
abbrev y_Mo_blind : MethodName := ⟨"DonkeyLightModel", "blind", "(I)I"⟩
theorem mo_Mo_blind : mOK y_Mo_blind prog_14_method_96_code 2 (some Jvm.ClassFile.FieldType.int) 1 := ⟨t_1922, t_14, ⟨by decide, by decide, by decide +kernel⟩, by decide⟩
theorem mv_Mo_blind : mV y_Mo_blind := ⟨t_1920, t_1921⟩
abbrev y_Mo_brightest : MethodName := ⟨"DonkeyLightModel", "brightest", "(I)I"⟩
theorem mo_Mo_brightest : mOK y_Mo_brightest prog_14_method_97_code 6 (some Jvm.ClassFile.FieldType.int) 1 := ⟨t_1926, t_14, ⟨by decide, by decide, by decide +kernel⟩, by decide⟩
theorem mv_Mo_brightest : mV y_Mo_brightest := ⟨t_1924, t_1925⟩
abbrev y_Mo_wrecks : MethodName := ⟨"DonkeyLightModel", "wrecks", "(II)I"⟩
theorem mo_Mo_wrecks : mOK y_Mo_wrecks prog_14_method_98_code 7 (some Jvm.ClassFile.FieldType.int) 2 := ⟨t_1930, t_14, ⟨by decide, by decide, by decide +kernel⟩, by decide⟩
theorem mv_Mo_wrecks : mV y_Mo_wrecks := ⟨t_1928, t_1929⟩
abbrev y_Mo_reefs : MethodName := ⟨"DonkeyLightModel", "reefs", "(I)I"⟩
theorem mo_Mo_reefs : mOK y_Mo_reefs prog_14_method_99_code 7 (some Jvm.ClassFile.FieldType.int) 1 := ⟨t_1934, t_14, ⟨by decide, by decide, by decide +kernel⟩, by decide⟩
theorem mv_Mo_reefs : mV y_Mo_reefs := ⟨t_1932, t_1933⟩
abbrev y_Mo_draw : MethodName := ⟨"DonkeyLightModel", "draw", "(I)I"⟩
theorem mo_Mo_draw : mOK y_Mo_draw prog_14_method_100_code 2 (some Jvm.ClassFile.FieldType.int) 1 := ⟨t_1949, t_14, ⟨by decide, by decide, by decide +kernel⟩, by decide⟩
theorem mv_Mo_draw : mV y_Mo_draw := ⟨t_1948, u_80⟩
abbrev y_Mo_winterBy : MethodName := ⟨"DonkeyLightModel", "winterBy", "(III)V"⟩
theorem mo_Mo_winterBy : mOK y_Mo_winterBy prog_14_method_101_code 5 none 3 := ⟨t_1945, t_14, ⟨by decide, by decide, by decide +kernel⟩, by decide⟩
theorem mv_Mo_winterBy : mV y_Mo_winterBy := ⟨t_1944, u_79⟩
abbrev y_Mo_isWinter : MethodName := ⟨"DonkeyLightModel", "isWinter", "(II)Z"⟩
theorem mo_Mo_isWinter : mOK y_Mo_isWinter prog_14_method_102_code 2 (some Jvm.ClassFile.FieldType.boolean) 2 := ⟨t_1941, t_14, ⟨by decide, by decide, by decide +kernel⟩, by decide⟩
abbrev y_Mo_winter : MethodName := ⟨"DonkeyLightModel", "winter", "(IIII)I"⟩
theorem mo_Mo_winter : mOK y_Mo_winter prog_14_method_103_code 5 (some Jvm.ClassFile.FieldType.int) 4 := ⟨t_1938, t_14, ⟨by decide, by decide, by decide +kernel⟩, by decide⟩
theorem mv_Mo_winter : mV y_Mo_winter := ⟨t_1936, t_1937⟩
abbrev y_Mo_span : MethodName := ⟨"DonkeyLightModel", "span", "(IIIII)I"⟩
theorem mo_Mo_span : mOK y_Mo_span prog_14_method_104_code 11 (some Jvm.ClassFile.FieldType.int) 5 := ⟨t_1954, t_14, ⟨by decide, by decide, by decide +kernel⟩, by decide⟩
theorem mv_Mo_span : mV y_Mo_span := ⟨t_1952, t_1953⟩
abbrev y_Mo_puts : MethodName := ⟨"DonkeyLightModel", "puts", "([IIZ)I"⟩
theorem mo_Mo_puts : mOK y_Mo_puts prog_14_method_105_code 4 (some Jvm.ClassFile.FieldType.int) 3 := ⟨t_1966, t_14, ⟨by decide, by decide, by decide +kernel⟩, by decide⟩
theorem mv_Mo_puts : mV y_Mo_puts := ⟨t_1965, u_82⟩
abbrev y_Mo_putsAll : MethodName := ⟨"DonkeyLightModel", "putsAll", "([IZ)V"⟩
theorem mo_Mo_putsAll : mOK y_Mo_putsAll prog_14_method_106_code 5 none 2 := ⟨t_1962, t_14, ⟨by decide, by decide, by decide +kernel⟩, by decide⟩
theorem mv_Mo_putsAll : mV y_Mo_putsAll := ⟨t_1961, u_81⟩
abbrev y_Mo_image : MethodName := ⟨"DonkeyLightModel", "image", "()I"⟩
theorem mo_Mo_image : mOK y_Mo_image prog_14_method_107_code 1 (some Jvm.ClassFile.FieldType.int) 0 := ⟨t_1958, t_14, ⟨by decide, by decide, by decide +kernel⟩, by decide⟩
theorem mv_Mo_image : mV y_Mo_image := ⟨t_1956, t_1957⟩
abbrev y_Mo_restore : MethodName := ⟨"DonkeyLightModel", "restore", "()I"⟩
theorem mo_Mo_restore : mOK y_Mo_restore prog_14_method_108_code 1 (some Jvm.ClassFile.FieldType.int) 0 := ⟨t_1970, t_14, ⟨by decide, by decide, by decide +kernel⟩, by decide⟩
theorem mv_Mo_restore : mV y_Mo_restore := ⟨t_1968, t_1969⟩
abbrev y_Mo_status : MethodName := ⟨"DonkeyLightModel", "status", "(I)I"⟩
theorem mo_Mo_status : mOK y_Mo_status prog_14_method_109_code 2 (some Jvm.ClassFile.FieldType.int) 1 := ⟨t_1974, t_14, ⟨by decide, by decide, by decide +kernel⟩, by decide⟩
theorem mv_Mo_status : mV y_Mo_status := ⟨t_1972, t_1973⟩
abbrev y_Mo_count : MethodName := ⟨"DonkeyLightModel", "count", "(I)I"⟩
theorem mo_Mo_count : mOK y_Mo_count prog_14_method_110_code 2 (some Jvm.ClassFile.FieldType.int) 1 := ⟨t_1978, t_14, ⟨by decide, by decide, by decide +kernel⟩, by decide⟩
theorem mv_Mo_count : mV y_Mo_count := ⟨t_1976, t_1977⟩
