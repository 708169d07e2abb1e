/-! names -/
def am_all : List Jvm.Cond := lw_tbl.filter goodWord
theorem am_mem {w : Jvm.Cond} (i : Nat) (h : lw_tbl[i]? = some w) (hg : goodWord w = true) : w ∈ am_all := List.mem_filter.mpr ⟨List.mem_of_getElem? h, hg⟩
theorem am_inl {ws : List Jvm.Cond} (ps : List Nat) (h : ws = ps.filterMap (fun i => lw_tbl[i]?)) (hg : ws.all goodWord = true) : ∀ w ∈ ws, w ∈ am_all := by
  intro w hw
  have h1 := List.all_eq_true.mp hg w hw
  rw [h] at hw
  obtain ⟨i, -, hi⟩ := List.mem_filterMap.mp hw
  exact am_mem i hi h1
theorem am_good {w : Jvm.Cond} (h : w ∈ am_all) : (w.onTables && w.keeps) = true ∨ ∃ ty, w = .arrayClass ty := good_of_word (List.mem_filter.mp h).2
def RX0 : String := "Samovar$Company"
def TX0 : u_T := fun k => match k with
  | 0 => ("Samovar$Company", "state", "[I", true)
  | 1 => ("Samovar$Company", "had", "[I", true)
  | 2 => ("Samovar$Company", "since", "[I", true)
  | 3 => ("Samovar$Company", "ticket", "[I", true)
  | 4 => ("Samovar$Company", "tickets", "I", false)
  | 5 => ("Samovar$Company", "waiting", "I", false)
  | 6 => ("Samovar$Company", "glasses", "I", false)
  | 7 => ("Samovar$Company", "content", "I", false)
  | _ => ("Samovar$Company", "gone", "I", false)
def tyX0 : Nat → FieldType := fun k => match k with
  | 0 => .array .int
  | 1 => .array .int
  | 2 => .array .int
  | 3 => .array .int
  | 4 => .int
  | 5 => .int
  | 6 => .int
  | 7 => .int
  | _ => .int
theorem nmX0 : ∀ a, a < 9 → ∀ b, b < 9 → a ≠ b → (TX0 a).2.1 ≠ (TX0 b).2.1 := by decide +kernel
theorem tyX0_ok : ∀ k, k < 9 → parseFieldDescriptor (TX0 k).2.2.1 = some (tyX0 k) := by decide +kernel
set_option maxRecDepth 20000 in
theorem inX0 : ∀ w ∈ u_ws RX0 TX0 9, w ∈ am_all := am_inl [266, 268, 270, 272, 274, 276, 278, 280, 282] (by decide +kernel) (by decide +kernel)
def RX1 : String := "Samovar$Entries"
def TX1 : u_T := fun k => match k with
  | 0 => ("Samovar$Entries", "minute", "[I", true)
  | 1 => ("Samovar$Entries", "kind", "[I", true)
  | 2 => ("Samovar$Entries", "number", "[I", true)
  | _ => ("Samovar$Entries", "size", "I", false)
def tyX1 : Nat → FieldType := fun k => match k with
  | 0 => .array .int
  | 1 => .array .int
  | 2 => .array .int
  | _ => .int
theorem nmX1 : ∀ a, a < 4 → ∀ b, b < 4 → a ≠ b → (TX1 a).2.1 ≠ (TX1 b).2.1 := by decide +kernel
theorem tyX1_ok : ∀ k, k < 4 → parseFieldDescriptor (TX1 k).2.2.1 = some (tyX1 k) := by decide +kernel
set_option maxRecDepth 20000 in
theorem inX1 : ∀ w ∈ u_ws RX1 TX1 4, w ∈ am_all := am_inl [138, 140, 142, 144] (by decide +kernel) (by decide +kernel)
def RX2 : String := "Samovar$Evening"
def TX2 : u_T := fun k => match k with
  | 0 => ("Samovar$Evening", "heat", "[I", true)
  | 1 => ("Samovar$Evening", "water", "[I", true)
  | 2 => ("Samovar$Evening", "brew", "[I", true)
  | 3 => ("Samovar$Evening", "fire", "[I", true)
  | 4 => ("Samovar$Evening", "served", "[I", true)
  | 5 => ("Samovar$Evening", "waiting", "[I", true)
  | 6 => ("Samovar$Evening", "states", "[I", true)
  | 7 => ("Samovar$Evening", "glasses", "[I", true)
  | 8 => ("Samovar$Evening", "kettle", "LSamovar$Kettle;", true)
  | 9 => ("Samovar$Evening", "company", "LSamovar$Company;", true)
  | _ => ("Samovar$Evening", "boiled", "I", false)
def tyX2 : Nat → FieldType := fun k => match k with
  | 0 => .array .int
  | 1 => .array .int
  | 2 => .array .int
  | 3 => .array .int
  | 4 => .array .int
  | 5 => .array .int
  | 6 => .array .int
  | 7 => .array .int
  | 8 => .object "Samovar$Kettle"
  | 9 => .object "Samovar$Company"
  | _ => .int
theorem nmX2 : ∀ a, a < 11 → ∀ b, b < 11 → a ≠ b → (TX2 a).2.1 ≠ (TX2 b).2.1 := by decide +kernel
theorem tyX2_ok : ∀ k, k < 11 → parseFieldDescriptor (TX2 k).2.2.1 = some (tyX2 k) := by decide +kernel
set_option maxRecDepth 20000 in
theorem inX2 : ∀ w ∈ u_ws RX2 TX2 11, w ∈ am_all := am_inl [307, 309, 311, 313, 315, 317, 319, 321, 323, 325, 327] (by decide +kernel) (by decide +kernel)
def RX3 : String := "Samovar$Kettle"
def TX3 : u_T := fun k => match k with
  | 0 => ("Samovar$Kettle", "heat", "I", false)
  | 1 => ("Samovar$Kettle", "water", "I", false)
  | 2 => ("Samovar$Kettle", "brew", "I", false)
  | _ => ("Samovar$Kettle", "steamed", "I", false)
def tyX3 : Nat → FieldType := fun k => match k with
  | 0 => .int
  | 1 => .int
  | 2 => .int
  | _ => .int
theorem nmX3 : ∀ a, a < 4 → ∀ b, b < 4 → a ≠ b → (TX3 a).2.1 ≠ (TX3 b).2.1 := by decide +kernel
theorem tyX3_ok : ∀ k, k < 4 → parseFieldDescriptor (TX3 k).2.2.1 = some (tyX3 k) := by decide +kernel
set_option maxRecDepth 20000 in
theorem inX3 : ∀ w ∈ u_ws RX3 TX3 4, w ∈ am_all := am_inl [233, 235, 237, 239] (by decide +kernel) (by decide +kernel)
def RX4 : String := "Samovar$Plan"
def TX4 : u_T := fun k => match k with
  | 0 => ("Samovar$Plan", "fuel", "LSamovar$Entries;", true)
  | 1 => ("Samovar$Plan", "guests", "LSamovar$Entries;", true)
  | 2 => ("Samovar$Plan", "events", "LSamovar$Entries;", true)
  | 3 => ("Samovar$Plan", "water", "I", false)
  | 4 => ("Samovar$Plan", "brew", "I", false)
  | _ => ("Samovar$Plan", "left", "I", false)
def tyX4 : Nat → FieldType := fun k => match k with
  | 0 => .object "Samovar$Entries"
  | 1 => .object "Samovar$Entries"
  | 2 => .object "Samovar$Entries"
  | 3 => .int
  | 4 => .int
  | _ => .int
theorem nmX4 : ∀ a, a < 6 → ∀ b, b < 6 → a ≠ b → (TX4 a).2.1 ≠ (TX4 b).2.1 := by decide +kernel
theorem tyX4_ok : ∀ k, k < 6 → parseFieldDescriptor (TX4 k).2.2.1 = some (tyX4 k) := by decide +kernel
set_option maxRecDepth 20000 in
theorem inX4 : ∀ w ∈ u_ws RX4 TX4 6, w ∈ am_all := am_inl [198, 200, 202, 204, 206, 208] (by decide +kernel) (by decide +kernel)
def RX5 : String := "Samovar$Sheet"
def TX5 : u_T := fun k => match k with
  | 0 => ("Samovar$Sheet", "items", "[I", true)
  | 1 => ("Samovar$Sheet", "lost", "Z", false)
  | 2 => ("Samovar$Sheet", "form", "I", false)
  | _ => ("Samovar$Sheet", "size", "I", false)
def tyX5 : Nat → FieldType := fun k => match k with
  | 0 => .array .int
  | 1 => .boolean
  | 2 => .int
  | _ => .int
theorem nmX5 : ∀ a, a < 4 → ∀ b, b < 4 → a ≠ b → (TX5 a).2.1 ≠ (TX5 b).2.1 := by decide +kernel
theorem tyX5_ok : ∀ k, k < 4 → parseFieldDescriptor (TX5 k).2.2.1 = some (tyX5 k) := by decide +kernel
set_option maxRecDepth 20000 in
theorem inX5 : ∀ w ∈ u_ws RX5 TX5 4, w ∈ am_all := am_inl [373, 375, 377, 379] (by decide +kernel) (by decide +kernel)
def RX6 : String := "Samovar$Text"
def TX6 : u_T := fun k => match k with
  | 0 => ("Samovar$Text", "entries", "LSamovar$Entries;", true)
  | 1 => ("Samovar$Text", "bytes", "[I", true)
  | 2 => ("Samovar$Text", "kinds", "Ljava/lang/String;", true)
  | 3 => ("Samovar$Text", "mostFigure", "I", true)
  | 4 => ("Samovar$Text", "size", "I", false)
  | _ => ("Samovar$Text", "fault", "I", false)
def tyX6 : Nat → FieldType := fun k => match k with
  | 0 => .object "Samovar$Entries"
  | 1 => .array .int
  | 2 => .object "java/lang/String"
  | 3 => .int
  | 4 => .int
  | _ => .int
theorem nmX6 : ∀ a, a < 6 → ∀ b, b < 6 → a ≠ b → (TX6 a).2.1 ≠ (TX6 b).2.1 := by decide +kernel
theorem tyX6_ok : ∀ k, k < 6 → parseFieldDescriptor (TX6 k).2.2.1 = some (tyX6 k) := by decide +kernel
set_option maxRecDepth 20000 in
theorem inX6 : ∀ w ∈ u_ws RX6 TX6 6, w ∈ am_all := am_inl [158, 160, 162, 164, 166, 168] (by decide +kernel) (by decide +kernel)
def RX7 : String := "Samovar$Trials"
def TX7 : u_T := fun k => match k with
  | 0 => ("Samovar$Trials", "outcomes", "[J", true)
  | 1 => ("Samovar$Trials", "told", "LSamovar$Plan;", true)
  | 2 => ("Samovar$Trials", "other", "LSamovar$Plan;", true)
  | 3 => ("Samovar$Trials", "evening", "LSamovar$Evening;", true)
  | _ => ("Samovar$Trials", "empty", "Z", false)
def tyX7 : Nat → FieldType := fun k => match k with
  | 0 => .array .long
  | 1 => .object "Samovar$Plan"
  | 2 => .object "Samovar$Plan"
  | 3 => .object "Samovar$Evening"
  | _ => .boolean
theorem nmX7 : ∀ a, a < 5 → ∀ b, b < 5 → a ≠ b → (TX7 a).2.1 ≠ (TX7 b).2.1 := by decide +kernel
theorem tyX7_ok : ∀ k, k < 5 → parseFieldDescriptor (TX7 k).2.2.1 = some (tyX7 k) := by decide +kernel
set_option maxRecDepth 20000 in
theorem inX7 : ∀ w ∈ u_ws RX7 TX7 5, w ∈ am_all := am_inl [347, 349, 351, 353, 355] (by decide +kernel) (by decide +kernel)
def RX8 : String := "Samovar"
def TX8 : u_T := fun k => match k with
  | 0 => ("Samovar", "fuel", "LSamovar$Text;", true)
  | 1 => ("Samovar", "guests", "LSamovar$Text;", true)
  | 2 => ("Samovar", "events", "LSamovar$Entries;", true)
  | 3 => ("Samovar", "seen", "LSamovar$Entries;", true)
  | 4 => ("Samovar", "told", "LSamovar$Plan;", true)
  | 5 => ("Samovar", "evening", "LSamovar$Evening;", true)
  | 6 => ("Samovar", "trials", "LSamovar$Trials;", true)
  | 7 => ("Samovar", "sheet0", "LSamovar$Sheet;", true)
  | 8 => ("Samovar", "sheet1", "LSamovar$Sheet;", true)
  | 9 => ("Samovar", "sheet2", "LSamovar$Sheet;", true)
  | 10 => ("Samovar", "sheet3", "LSamovar$Sheet;", true)
  | 11 => ("Samovar", "eveningKnown", "Z", false)
  | _ => ("Samovar", "finding", "I", false)
def tyX8 : Nat → FieldType := fun k => match k with
  | 0 => .object "Samovar$Text"
  | 1 => .object "Samovar$Text"
  | 2 => .object "Samovar$Entries"
  | 3 => .object "Samovar$Entries"
  | 4 => .object "Samovar$Plan"
  | 5 => .object "Samovar$Evening"
  | 6 => .object "Samovar$Trials"
  | 7 => .object "Samovar$Sheet"
  | 8 => .object "Samovar$Sheet"
  | 9 => .object "Samovar$Sheet"
  | 10 => .object "Samovar$Sheet"
  | 11 => .boolean
  | _ => .int
theorem nmX8 : ∀ a, a < 13 → ∀ b, b < 13 → a ≠ b → (TX8 a).2.1 ≠ (TX8 b).2.1 := by decide +kernel
theorem tyX8_ok : ∀ k, k < 13 → parseFieldDescriptor (TX8 k).2.2.1 = some (tyX8 k) := by decide +kernel
set_option maxRecDepth 20000 in
theorem inX8 : ∀ w ∈ u_ws RX8 TX8 13, w ∈ am_all := am_inl [395, 397, 399, 401, 403, 405, 407, 409, 411, 413, 415, 417, 419] (by decide +kernel) (by decide +kernel)
def RX9 : String := "SamovarModel"
def TX9 : u_T := fun k => match k with
  | 0 => ("SamovarModel", "typed", "[I", true)
  | 1 => ("SamovarModel", "texts", "[I", true)
  | 2 => ("SamovarModel", "pieces", "I", false)
  | 3 => ("SamovarModel", "pieceAt", "[I", true)
  | 4 => ("SamovarModel", "pieceKind", "[I", true)
  | 5 => ("SamovarModel", "pieceMany", "[I", true)
  | 6 => ("SamovarModel", "guests", "I", false)
  | 7 => ("SamovarModel", "guestAt", "[I", true)
  | 8 => ("SamovarModel", "guestDark", "[I", true)
  | 9 => ("SamovarModel", "guestAll", "[I", true)
  | 10 => ("SamovarModel", "waterTold", "I", false)
  | 11 => ("SamovarModel", "brewTold", "I", false)
  | 12 => ("SamovarModel", "events", "I", false)
  | 13 => ("SamovarModel", "eventKind", "[I", true)
  | 14 => ("SamovarModel", "eventAt", "[I", true)
  | 15 => ("SamovarModel", "eventNumber", "[I", true)
  | 16 => ("SamovarModel", "guestsNow", "I", false)
  | 17 => ("SamovarModel", "comeNow", "[I", true)
  | 18 => ("SamovarModel", "darkNow", "[I", true)
  | 19 => ("SamovarModel", "allNow", "[I", true)
  | 20 => ("SamovarModel", "waterNow", "I", false)
  | 21 => ("SamovarModel", "notEvents", "I", false)
  | 22 => ("SamovarModel", "heat", "I", false)
  | 23 => ("SamovarModel", "water", "I", false)
  | 24 => ("SamovarModel", "brew", "I", false)
  | 25 => ("SamovarModel", "boot", "I", false)
  | 26 => ("SamovarModel", "steamed", "I", false)
  | 27 => ("SamovarModel", "boiled", "I", false)
  | 28 => ("SamovarModel", "firstBoil", "I", false)
  | 29 => ("SamovarModel", "lineMany", "I", false)
  | 30 => ("SamovarModel", "line", "[I", true)
  | 31 => ("SamovarModel", "state", "[I", true)
  | 32 => ("SamovarModel", "had", "[I", true)
  | 33 => ("SamovarModel", "backAt", "[I", true)
  | 34 => ("SamovarModel", "since", "[I", true)
  | 35 => ("SamovarModel", "waits", "[I", true)
  | 36 => ("SamovarModel", "tells", "[I", true)
  | 37 => ("SamovarModel", "lineAt", "[I", true)
  | 38 => ("SamovarModel", "stateAt", "[I", true)
  | 39 => ("SamovarModel", "hadAt", "[I", true)
  | 40 => ("SamovarModel", "bestNow", "I", false)
  | 41 => ("SamovarModel", "mostNow", "I", false)
  | 42 => ("SamovarModel", "planRow", "[I", true)
  | 43 => ("SamovarModel", "seens", "I", false)
  | 44 => ("SamovarModel", "seenAt", "[I", true)
  | 45 => ("SamovarModel", "seenIs", "[I", true)
  | 46 => ("SamovarModel", "boilsBy", "[I", true)
  | 47 => ("SamovarModel", "isThere", "[Z", true)
  | 48 => ("SamovarModel", "forms", "[I", true)
  | 49 => ("SamovarModel", "sizes", "[I", true)
  | 50 => ("SamovarModel", "items", "[I", true)
  | 51 => ("SamovarModel", "moved", "[I", true)
  | _ => ("SamovarModel", "finding", "I", false)
def tyX9 : Nat → FieldType := fun k => match k with
  | 0 => .array .int
  | 1 => .array .int
  | 2 => .int
  | 3 => .array .int
  | 4 => .array .int
  | 5 => .array .int
  | 6 => .int
  | 7 => .array .int
  | 8 => .array .int
  | 9 => .array .int
  | 10 => .int
  | 11 => .int
  | 12 => .int
  | 13 => .array .int
  | 14 => .array .int
  | 15 => .array .int
  | 16 => .int
  | 17 => .array .int
  | 18 => .array .int
  | 19 => .array .int
  | 20 => .int
  | 21 => .int
  | 22 => .int
  | 23 => .int
  | 24 => .int
  | 25 => .int
  | 26 => .int
  | 27 => .int
  | 28 => .int
  | 29 => .int
  | 30 => .array .int
  | 31 => .array .int
  | 32 => .array .int
  | 33 => .array .int
  | 34 => .array .int
  | 35 => .array .int
  | 36 => .array .int
  | 37 => .array .int
  | 38 => .array .int
  | 39 => .array .int
  | 40 => .int
  | 41 => .int
  | 42 => .array .int
  | 43 => .int
  | 44 => .array .int
  | 45 => .array .int
  | 46 => .array .int
  | 47 => .array .boolean
  | 48 => .array .int
  | 49 => .array .int
  | 50 => .array .int
  | 51 => .array .int
  | _ => .int
theorem nmX9 : ∀ a, a < 53 → ∀ b, b < 53 → a ≠ b → (TX9 a).2.1 ≠ (TX9 b).2.1 := by decide +kernel
theorem tyX9_ok : ∀ k, k < 53 → parseFieldDescriptor (TX9 k).2.2.1 = some (tyX9 k) := by decide +kernel
set_option maxRecDepth 20000 in
theorem inX9 : ∀ w ∈ u_ws RX9 TX9 53, w ∈ am_all := am_inl [1015, 1017, 1019, 1021, 1023, 1025, 1027, 1029, 1031, 1033, 1035, 1037, 1039, 1041, 1043, 1045, 1047, 1049, 1051, 1053, 1055, 1057, 1059, 1061, 1063, 1065, 1067, 1069, 1071, 1073, 1075, 1077, 1079, 1081, 1083, 1085, 1087, 1089, 1091, 1093, 1095, 1097, 1099, 1101, 1103, 1105, 1107, 1109, 1111, 1113, 1115, 1117, 1119] (by decide +kernel) (by decide +kernel)
abbrev am_cl : List vw_C := [(RX0, TX0, 9), (RX1, TX1, 4), (RX2, TX2, 11), (RX3, TX3, 4), (RX4, TX4, 6), (RX5, TX5, 4), (RX6, TX6, 6), (RX7, TX7, 5), (RX8, TX8, 13), (RX9, TX9, 53)]
