/-! ===== names and field tables (out of the printed names) ===== -/
def RX0 : String := "MeshWaters$Finder"
def TX0 : u_T := fun k => match k with
  | 0 => ("MeshWaters$Finder", "caught", "[J", true)
  | 1 => ("MeshWaters$Finder", "known", "[I", true)
  | 2 => ("MeshWaters$Finder", "nets", "I", false)
  | 3 => ("MeshWaters$Finder", "hauls", "I", false)
  | _ => ("MeshWaters$Finder", "first", "I", false)
def tyX0 : Nat → FieldType := fun k => match k with
  | 0 => .array .long
  | 1 => .array .int
  | 2 => .int
  | 3 => .int
  | _ => .int
abbrev wsX00 : List Cond := u_ws RX0 TX0 5
theorem nmX0 : ∀ a, a < 5 → ∀ b, b < 5 → a ≠ b → (TX0 a).2.1 ≠ (TX0 b).2.1 := by decide +kernel
theorem tyX0_ok : ∀ k, k < 5 → parseFieldDescriptor (TX0 k).2.2.1 = some (tyX0 k) := by decide +kernel
def RX1 : String := "MeshWaters$Licences"
def TX1 : u_T := fun k => match k with
  | 0 => ("MeshWaters$Licences", "less", "[J", false)
  | _ => ("MeshWaters$Licences", "longer", "[J", false)
def tyX1 : Nat → FieldType := fun k => match k with
  | 0 => .array .long
  | _ => .array .long
abbrev wsX10 : List Cond := u_ws RX1 TX1 2
theorem nmX1 : ∀ a, a < 2 → ∀ b, b < 2 → a ≠ b → (TX1 a).2.1 ≠ (TX1 b).2.1 := by decide +kernel
theorem tyX1_ok : ∀ k, k < 2 → parseFieldDescriptor (TX1 k).2.2.1 = some (tyX1 k) := by decide +kernel
def RX2 : String := "MeshWaters$Parts"
def TX2 : u_T := fun k => match k with
  | 0 => ("MeshWaters$Parts", "factors", "[I", true)
  | 1 => ("MeshWaters$Parts", "often", "[I", true)
  | _ => ("MeshWaters$Parts", "many", "I", false)
def tyX2 : Nat → FieldType := fun k => match k with
  | 0 => .array .int
  | 1 => .array .int
  | _ => .int
abbrev wsX20 : List Cond := u_ws RX2 TX2 3
theorem nmX2 : ∀ a, a < 3 → ∀ b, b < 3 → a ≠ b → (TX2 a).2.1 ≠ (TX2 b).2.1 := by decide +kernel
theorem tyX2_ok : ∀ k, k < 3 → parseFieldDescriptor (TX2 k).2.2.1 = some (tyX2 k) := by decide +kernel
def RX3 : String := "MeshWaters$Pond"
def TX3 : u_T := fun k => match k with
  | 0 => ("MeshWaters$Pond", "rows", "[[I", true)
  | 1 => ("MeshWaters$Pond", "sums", "[I", true)
  | 2 => ("MeshWaters$Pond", "past", "[J", true)
  | 3 => ("MeshWaters$Pond", "firstYear", "I", false)
  | _ => ("MeshWaters$Pond", "yearsLater", "I", false)
def tyX3 : Nat → FieldType := fun k => match k with
  | 0 => .array (.array .int)
  | 1 => .array .int
  | 2 => .array .long
  | 3 => .int
  | _ => .int
abbrev wsX30 : List Cond := u_ws RX3 TX3 5
theorem nmX3 : ∀ a, a < 5 → ∀ b, b < 5 → a ≠ b → (TX3 a).2.1 ≠ (TX3 b).2.1 := by decide +kernel
theorem tyX3_ok : ∀ k, k < 5 → parseFieldDescriptor (TX3 k).2.2.1 = some (tyX3 k) := by decide +kernel
def RX4 : String := "MeshWaters$Reader"
def TX4 : u_T := fun k => match k with
  | 0 => ("MeshWaters$Reader", "tape", "[I", true)
  | 1 => ("MeshWaters$Reader", "sea", "LMeshWaters$Sea;", true)
  | 2 => ("MeshWaters$Reader", "length", "I", false)
  | 3 => ("MeshWaters$Reader", "faultAt", "I", false)
  | 4 => ("MeshWaters$Reader", "fault", "I", false)
  | 5 => ("MeshWaters$Reader", "end", "I", false)
  | 6 => ("MeshWaters$Reader", "at", "I", false)
  | 7 => ("MeshWaters$Reader", "kind", "I", false)
  | 8 => ("MeshWaters$Reader", "tokenAt", "I", false)
  | 9 => ("MeshWaters$Reader", "sign", "I", false)
  | 10 => ("MeshWaters$Reader", "number", "I", false)
  | 11 => ("MeshWaters$Reader", "digits", "I", false)
  | 12 => ("MeshWaters$Reader", "placesTold", "Z", false)
  | _ => ("MeshWaters$Reader", "pondTold", "Z", false)
def tyX4 : Nat → FieldType := fun k => match k with
  | 0 => .array .int
  | 1 => .object "MeshWaters$Sea"
  | 2 => .int
  | 3 => .int
  | 4 => .int
  | 5 => .int
  | 6 => .int
  | 7 => .int
  | 8 => .int
  | 9 => .int
  | 10 => .int
  | 11 => .int
  | 12 => .boolean
  | _ => .boolean
abbrev wsX40 : List Cond := u_ws RX4 TX4 14
theorem nmX4 : ∀ a, a < 14 → ∀ b, b < 14 → a ≠ b → (TX4 a).2.1 ≠ (TX4 b).2.1 := by decide +kernel
theorem tyX4_ok : ∀ k, k < 14 → parseFieldDescriptor (TX4 k).2.2.1 = some (tyX4 k) := by decide +kernel
def RX5 : String := "MeshWaters$Rule"
def TX5 : u_T := fun k => match k with
  | 0 => ("MeshWaters$Rule", "codes", "[I", true)
  | 1 => ("MeshWaters$Rule", "numbers", "[I", true)
  | 2 => ("MeshWaters$Rule", "steps", "I", false)
  | 3 => ("MeshWaters$Rule", "told", "Z", false)
  | _ => ("MeshWaters$Rule", "asksSums", "Z", false)
def tyX5 : Nat → FieldType := fun k => match k with
  | 0 => .array .int
  | 1 => .array .int
  | 2 => .int
  | 3 => .boolean
  | _ => .boolean
abbrev wsX50 : List Cond := u_ws RX5 TX5 5
theorem nmX5 : ∀ a, a < 5 → ∀ b, b < 5 → a ≠ b → (TX5 a).2.1 ≠ (TX5 b).2.1 := by decide +kernel
theorem tyX5_ok : ∀ k, k < 5 → parseFieldDescriptor (TX5 k).2.2.1 = some (tyX5 k) := by decide +kernel
def RX6 : String := "MeshWaters$Scene"
def TX6 : u_T := fun k => match k with
  | 0 => ("MeshWaters$Scene", "actKinds", "[I", true)
  | 1 => ("MeshWaters$Scene", "actFirsts", "[J", true)
  | 2 => ("MeshWaters$Scene", "actSeconds", "[J", true)
  | 3 => ("MeshWaters$Scene", "wishNumbers", "[J", true)
  | 4 => ("MeshWaters$Scene", "wished", "[Z", true)
  | 5 => ("MeshWaters$Scene", "seenNumbers", "[J", true)
  | 6 => ("MeshWaters$Scene", "refused", "[I", true)
  | 7 => ("MeshWaters$Scene", "low", "J", false)
  | 8 => ("MeshWaters$Scene", "high", "J", false)
  | 9 => ("MeshWaters$Scene", "lowered", "I", false)
  | 10 => ("MeshWaters$Scene", "taken", "J", false)
  | 11 => ("MeshWaters$Scene", "years", "I", false)
  | 12 => ("MeshWaters$Scene", "acts", "I", false)
  | 13 => ("MeshWaters$Scene", "wishes", "I", false)
  | _ => ("MeshWaters$Scene", "seen", "I", false)
def tyX6 : Nat → FieldType := fun k => match k with
  | 0 => .array .int
  | 1 => .array .long
  | 2 => .array .long
  | 3 => .array .long
  | 4 => .array .boolean
  | 5 => .array .long
  | 6 => .array .int
  | 7 => .long
  | 8 => .long
  | 9 => .int
  | 10 => .long
  | 11 => .int
  | 12 => .int
  | 13 => .int
  | _ => .int
abbrev wsX60 : List Cond := u_ws RX6 TX6 15
theorem nmX6 : ∀ a, a < 15 → ∀ b, b < 15 → a ≠ b → (TX6 a).2.1 ≠ (TX6 b).2.1 := by decide +kernel
theorem tyX6_ok : ∀ k, k < 15 → parseFieldDescriptor (TX6 k).2.2.1 = some (tyX6 k) := by decide +kernel
def RX7 : String := "MeshWaters$Sea"
def TX7 : u_T := fun k => match k with
  | 0 => ("MeshWaters$Sea", "kinds", "[I", true)
  | 1 => ("MeshWaters$Sea", "meshes", "[J", true)
  | 2 => ("MeshWaters$Sea", "rests", "[J", true)
  | 3 => ("MeshWaters$Sea", "froms", "[J", true)
  | 4 => ("MeshWaters$Sea", "tos", "[J", true)
  | 5 => ("MeshWaters$Sea", "rule", "LMeshWaters$Rule;", true)
  | 6 => ("MeshWaters$Sea", "nets", "I", false)
  | 7 => ("MeshWaters$Sea", "places", "I", false)
  | _ => ("MeshWaters$Sea", "taken", "J", false)
def tyX7 : Nat → FieldType := fun k => match k with
  | 0 => .array .int
  | 1 => .array .long
  | 2 => .array .long
  | 3 => .array .long
  | 4 => .array .long
  | 5 => .object "MeshWaters$Rule"
  | 6 => .int
  | 7 => .int
  | _ => .long
abbrev wsX70 : List Cond := u_ws RX7 TX7 9
theorem nmX7 : ∀ a, a < 9 → ∀ b, b < 9 → a ≠ b → (TX7 a).2.1 ≠ (TX7 b).2.1 := by decide +kernel
theorem tyX7_ok : ∀ k, k < 9 → parseFieldDescriptor (TX7 k).2.2.1 = some (tyX7 k) := by decide +kernel
def RX8 : String := "MeshWaters$Shares"
def TX8 : u_T := fun k => match k with
  | 0 => ("MeshWaters$Shares", "meshes", "[J", true)
  | 1 => ("MeshWaters$Shares", "rests", "[J", true)
  | 2 => ("MeshWaters$Shares", "froms", "[J", true)
  | 3 => ("MeshWaters$Shares", "tos", "[J", true)
  | 4 => ("MeshWaters$Shares", "counts", "[J", true)
  | _ => ("MeshWaters$Shares", "sets", "I", false)
def tyX8 : Nat → FieldType := fun k => match k with
  | 0 => .array .long
  | 1 => .array .long
  | 2 => .array .long
  | 3 => .array .long
  | 4 => .array .long
  | _ => .int
abbrev wsX80 : List Cond := u_ws RX8 TX8 6
theorem nmX8 : ∀ a, a < 6 → ∀ b, b < 6 → a ≠ b → (TX8 a).2.1 ≠ (TX8 b).2.1 := by decide +kernel
theorem tyX8_ok : ∀ k, k < 6 → parseFieldDescriptor (TX8 k).2.2.1 = some (tyX8 k) := by decide +kernel
def RX9 : String := "MeshWaters"
def TX9 : u_T := fun k => match k with
  | 0 => ("MeshWaters", "reader", "LMeshWaters$Reader;", true)
  | 1 => ("MeshWaters", "sea", "LMeshWaters$Sea;", true)
  | 2 => ("MeshWaters", "shares", "LMeshWaters$Shares;", true)
  | 3 => ("MeshWaters", "scene", "LMeshWaters$Scene;", true)
  | 4 => ("MeshWaters", "kept", "LMeshWaters$Scene;", true)
  | 5 => ("MeshWaters", "pond", "LMeshWaters$Pond;", true)
  | 6 => ("MeshWaters", "finder", "LMeshWaters$Finder;", true)
  | 7 => ("MeshWaters", "parts", "LMeshWaters$Parts;", true)
  | 8 => ("MeshWaters", "licences", "LMeshWaters$Licences;", true)
  | 9 => ("MeshWaters", "catchers", "[I", true)
  | 10 => ("MeshWaters", "struck", "[Z", true)
  | _ => ("MeshWaters", "imaged", "Z", false)
def tyX9 : Nat → FieldType := fun k => match k with
  | 0 => .object "MeshWaters$Reader"
  | 1 => .object "MeshWaters$Sea"
  | 2 => .object "MeshWaters$Shares"
  | 3 => .object "MeshWaters$Scene"
  | 4 => .object "MeshWaters$Scene"
  | 5 => .object "MeshWaters$Pond"
  | 6 => .object "MeshWaters$Finder"
  | 7 => .object "MeshWaters$Parts"
  | 8 => .object "MeshWaters$Licences"
  | 9 => .array .int
  | 10 => .array .boolean
  | _ => .boolean
abbrev wsX90 : List Cond := u_ws RX9 TX9 12
theorem nmX9 : ∀ a, a < 12 → ∀ b, b < 12 → a ≠ b → (TX9 a).2.1 ≠ (TX9 b).2.1 := by decide +kernel
theorem tyX9_ok : ∀ k, k < 12 → parseFieldDescriptor (TX9 k).2.2.1 = some (tyX9 k) := by decide +kernel
def RX10 : String := "MeshWatersModel"
def TX10 : u_T := fun k => match k with
  | 0 => ("MeshWatersModel", "kinds", "[Ljava/lang/String;", true)
  | 1 => ("MeshWatersModel", "values", "[Ljava/lang/String;", true)
  | 2 => ("MeshWatersModel", "code", "I", false)
  | 3 => ("MeshWatersModel", "told", "[I", true)
  | 4 => ("MeshWatersModel", "kind", "[I", true)
  | 5 => ("MeshWatersModel", "from", "[I", true)
  | 6 => ("MeshWatersModel", "to", "[I", true)
  | 7 => ("MeshWatersModel", "signs", "[I", true)
  | 8 => ("MeshWatersModel", "status", "[I", true)
  | 9 => ("MeshWatersModel", "meshOf", "[J", true)
  | 10 => ("MeshWatersModel", "rest", "[J", true)
  | 11 => ("MeshWatersModel", "pondRead", "J", false)
  | 12 => ("MeshWatersModel", "tape", "[I", true)
  | 13 => ("MeshWatersModel", "taped", "I", false)
  | 14 => ("MeshWatersModel", "at", "I", false)
  | 15 => ("MeshWatersModel", "size", "I", false)
  | 16 => ("MeshWatersModel", "token", "I", false)
  | 17 => ("MeshWatersModel", "number", "I", false)
  | 18 => ("MeshWatersModel", "begins", "I", false)
  | 19 => ("MeshWatersModel", "stops", "I", false)
  | 20 => ("MeshWatersModel", "bad", "I", false)
  | 21 => ("MeshWatersModel", "badPlace", "I", false)
  | 22 => ("MeshWatersModel", "faultPlace", "I", false)
  | 23 => ("MeshWatersModel", "low", "J", false)
  | 24 => ("MeshWatersModel", "high", "J", false)
  | 25 => ("MeshWatersModel", "pond", "J", false)
  | 26 => ("MeshWatersModel", "lowered", "I", false)
  | 27 => ("MeshWatersModel", "yearsMade", "I", false)
  | 28 => ("MeshWatersModel", "acts", "I", false)
  | 29 => ("MeshWatersModel", "wishes", "I", false)
  | 30 => ("MeshWatersModel", "wished", "I", false)
  | 31 => ("MeshWatersModel", "seen", "I", false)
  | 32 => ("MeshWatersModel", "past", "[J", true)
  | 33 => ("MeshWatersModel", "asked", "[I", true)
  | 34 => ("MeshWatersModel", "stack", "[I", true)
  | 35 => ("MeshWatersModel", "couples", "[I", true)
  | 36 => ("MeshWatersModel", "oneMesh", "J", false)
  | 37 => ("MeshWatersModel", "oneRest", "J", false)
  | 38 => ("MeshWatersModel", "oneLow", "J", false)
  | 39 => ("MeshWatersModel", "oneHigh", "J", false)
  | 40 => ("MeshWatersModel", "isNone", "Z", false)
  | 41 => ("MeshWatersModel", "wish", "[J", true)
  | 42 => ("MeshWatersModel", "seenRow", "[J", true)
  | 43 => ("MeshWatersModel", "isWished", "[Z", true)
  | 44 => ("MeshWatersModel", "caught", "[J", true)
  | 45 => ("MeshWatersModel", "primeOf", "[I", true)
  | 46 => ("MeshWatersModel", "oftenOf", "[I", true)
  | 47 => ("MeshWatersModel", "primesMany", "I", false)
  | 48 => ("MeshWatersModel", "bySum", "[J", true)
  | 49 => ("MeshWatersModel", "bySumNext", "[J", true)
  | 50 => ("MeshWatersModel", "figure", "[I", true)
  | 51 => ("MeshWatersModel", "figuresLong", "I", false)
  | 52 => ("MeshWatersModel", "ponds", "[J", true)
  | 53 => ("MeshWatersModel", "share", "[J", true)
  | 54 => ("MeshWatersModel", "hasImage", "Z", false)
  | 55 => ("MeshWatersModel", "actsThen", "I", false)
  | 56 => ("MeshWatersModel", "wishesThen", "I", false)
  | 57 => ("MeshWatersModel", "wishedThen", "I", false)
  | 58 => ("MeshWatersModel", "seenThen", "I", false)
  | 59 => ("MeshWatersModel", "rowThen", "[J", true)
  | 60 => ("MeshWatersModel", "pastThen", "[J", true)
  | 61 => ("MeshWatersModel", "wishThen", "[J", true)
  | 62 => ("MeshWatersModel", "seenRowThen", "[J", true)
  | 63 => ("MeshWatersModel", "isWishedThen", "[Z", true)
  | _ => ("MeshWatersModel", "statusThen", "[I", true)
def tyX10 : Nat → FieldType := fun k => match k with
  | 0 => .array (.object "java/lang/String")
  | 1 => .array (.object "java/lang/String")
  | 2 => .int
  | 3 => .array .int
  | 4 => .array .int
  | 5 => .array .int
  | 6 => .array .int
  | 7 => .array .int
  | 8 => .array .int
  | 9 => .array .long
  | 10 => .array .long
  | 11 => .long
  | 12 => .array .int
  | 13 => .int
  | 14 => .int
  | 15 => .int
  | 16 => .int
  | 17 => .int
  | 18 => .int
  | 19 => .int
  | 20 => .int
  | 21 => .int
  | 22 => .int
  | 23 => .long
  | 24 => .long
  | 25 => .long
  | 26 => .int
  | 27 => .int
  | 28 => .int
  | 29 => .int
  | 30 => .int
  | 31 => .int
  | 32 => .array .long
  | 33 => .array .int
  | 34 => .array .int
  | 35 => .array .int
  | 36 => .long
  | 37 => .long
  | 38 => .long
  | 39 => .long
  | 40 => .boolean
  | 41 => .array .long
  | 42 => .array .long
  | 43 => .array .boolean
  | 44 => .array .long
  | 45 => .array .int
  | 46 => .array .int
  | 47 => .int
  | 48 => .array .long
  | 49 => .array .long
  | 50 => .array .int
  | 51 => .int
  | 52 => .array .long
  | 53 => .array .long
  | 54 => .boolean
  | 55 => .int
  | 56 => .int
  | 57 => .int
  | 58 => .int
  | 59 => .array .long
  | 60 => .array .long
  | 61 => .array .long
  | 62 => .array .long
  | 63 => .array .boolean
  | _ => .array .int
abbrev wsX100 : List Cond := u_ws RX10 TX10 65
theorem nmX10 : ∀ a, a < 65 → ∀ b, b < 65 → a ≠ b → (TX10 a).2.1 ≠ (TX10 b).2.1 := by decide +kernel
theorem tyX10_ok : ∀ k, k < 65 → parseFieldDescriptor (TX10 k).2.2.1 = some (tyX10 k) := by decide +kernel
abbrev kCl : List vw_C := [(RX0, TX0, 5), (RX1, TX1, 2), (RX2, TX2, 3), (RX3, TX3, 5), (RX4, TX4, 14), (RX5, TX5, 5), (RX6, TX6, 15), (RX7, TX7, 9), (RX8, TX8, 6), (RX9, TX9, 12), (RX10, TX10, 65)]
set_option maxRecDepth 100000 in
theorem kws0 : ∀ w ∈ u_ws RX0 TX0 5, w ∈ lw_tbl.filter goodWord := by
  intro w hw
  obtain ⟨j, hj, rfl⟩ := List.mem_map.mp hw
  have hj := List.mem_range.mp hj
  have h : (List.range 5).all (fun j => wd lw_tbl (([389, 391, 393, 395, 397] : List Nat).getD j 0) (u_lay RX0 TX0 j)) = true := by decide +kernel
  exact wd_in (List.all_eq_true.mp h j (List.mem_range.mpr hj))
set_option maxRecDepth 100000 in
theorem kws1 : ∀ w ∈ u_ws RX1 TX1 2, w ∈ lw_tbl.filter goodWord := by
  intro w hw
  obtain ⟨j, hj, rfl⟩ := List.mem_map.mp hw
  have hj := List.mem_range.mp hj
  have h : (List.range 2).all (fun j => wd lw_tbl (([425, 427] : List Nat).getD j 0) (u_lay RX1 TX1 j)) = true := by decide +kernel
  exact wd_in (List.all_eq_true.mp h j (List.mem_range.mpr hj))
set_option maxRecDepth 100000 in
theorem kws2 : ∀ w ∈ u_ws RX2 TX2 3, w ∈ lw_tbl.filter goodWord := by
  intro w hw
  obtain ⟨j, hj, rfl⟩ := List.mem_map.mp hw
  have hj := List.mem_range.mp hj
  have h : (List.range 3).all (fun j => wd lw_tbl (([410, 412, 414] : List Nat).getD j 0) (u_lay RX2 TX2 j)) = true := by decide +kernel
  exact wd_in (List.all_eq_true.mp h j (List.mem_range.mpr hj))
set_option maxRecDepth 100000 in
theorem kws3 : ∀ w ∈ u_ws RX3 TX3 5, w ∈ lw_tbl.filter goodWord := by
  intro w hw
  obtain ⟨j, hj, rfl⟩ := List.mem_map.mp hw
  have hj := List.mem_range.mp hj
  have h : (List.range 5).all (fun j => wd lw_tbl (([365, 367, 369, 371, 373] : List Nat).getD j 0) (u_lay RX3 TX3 j)) = true := by decide +kernel
  exact wd_in (List.all_eq_true.mp h j (List.mem_range.mpr hj))
set_option maxRecDepth 100000 in
theorem kws4 : ∀ w ∈ u_ws RX4 TX4 14, w ∈ lw_tbl.filter goodWord := by
  intro w hw
  obtain ⟨j, hj, rfl⟩ := List.mem_map.mp hw
  have hj := List.mem_range.mp hj
  have h : (List.range 14).all (fun j => wd lw_tbl (([228, 230, 232, 234, 236, 238, 240, 242, 244, 246, 248, 250, 252, 254] : List Nat).getD j 0) (u_lay RX4 TX4 j)) = true := by decide +kernel
  exact wd_in (List.all_eq_true.mp h j (List.mem_range.mpr hj))
set_option maxRecDepth 100000 in
theorem kws5 : ∀ w ∈ u_ws RX5 TX5 5, w ∈ lw_tbl.filter goodWord := by
  intro w hw
  obtain ⟨j, hj, rfl⟩ := List.mem_map.mp hw
  have hj := List.mem_range.mp hj
  have h : (List.range 5).all (fun j => wd lw_tbl (([155, 157, 159, 161, 163] : List Nat).getD j 0) (u_lay RX5 TX5 j)) = true := by decide +kernel
  exact wd_in (List.all_eq_true.mp h j (List.mem_range.mpr hj))
set_option maxRecDepth 100000 in
theorem kws6 : ∀ w ∈ u_ws RX6 TX6 15, w ∈ lw_tbl.filter goodWord := by
  intro w hw
  obtain ⟨j, hj, rfl⟩ := List.mem_map.mp hw
  have hj := List.mem_range.mp hj
  have h : (List.range 15).all (fun j => wd lw_tbl (([318, 320, 322, 324, 326, 328, 330, 332, 334, 336, 338, 340, 342, 344, 346] : List Nat).getD j 0) (u_lay RX6 TX6 j)) = true := by decide +kernel
  exact wd_in (List.all_eq_true.mp h j (List.mem_range.mpr hj))
set_option maxRecDepth 100000 in
theorem kws7 : ∀ w ∈ u_ws RX7 TX7 9, w ∈ lw_tbl.filter goodWord := by
  intro w hw
  obtain ⟨j, hj, rfl⟩ := List.mem_map.mp hw
  have hj := List.mem_range.mp hj
  have h : (List.range 9).all (fun j => wd lw_tbl (([192, 194, 196, 198, 200, 202, 204, 206, 208] : List Nat).getD j 0) (u_lay RX7 TX7 j)) = true := by decide +kernel
  exact wd_in (List.all_eq_true.mp h j (List.mem_range.mpr hj))
set_option maxRecDepth 100000 in
theorem kws8 : ∀ w ∈ u_ws RX8 TX8 6, w ∈ lw_tbl.filter goodWord := by
  intro w hw
  obtain ⟨j, hj, rfl⟩ := List.mem_map.mp hw
  have hj := List.mem_range.mp hj
  have h : (List.range 6).all (fun j => wd lw_tbl (([273, 275, 277, 279, 281, 283] : List Nat).getD j 0) (u_lay RX8 TX8 j)) = true := by decide +kernel
  exact wd_in (List.all_eq_true.mp h j (List.mem_range.mpr hj))
set_option maxRecDepth 100000 in
theorem kws9 : ∀ w ∈ u_ws RX9 TX9 12, w ∈ lw_tbl.filter goodWord := by
  intro w hw
  obtain ⟨j, hj, rfl⟩ := List.mem_map.mp hw
  have hj := List.mem_range.mp hj
  have h : (List.range 12).all (fun j => wd lw_tbl (([442, 444, 446, 448, 450, 452, 454, 456, 458, 460, 462, 464] : List Nat).getD j 0) (u_lay RX9 TX9 j)) = true := by decide +kernel
  exact wd_in (List.all_eq_true.mp h j (List.mem_range.mpr hj))
set_option maxRecDepth 100000 in
theorem kws10 : ∀ w ∈ u_ws RX10 TX10 65, w ∈ lw_tbl.filter goodWord := by
  intro w hw
  obtain ⟨j, hj, rfl⟩ := List.mem_map.mp hw
  have hj := List.mem_range.mp hj
  have h : (List.range 65).all (fun j => wd lw_tbl (([1393, 1395, 1397, 1399, 1401, 1403, 1405, 1407, 1409, 1411, 1413, 1415, 1417, 1419, 1421, 1423, 1425, 1427, 1429, 1431, 1433, 1435, 1437, 1439, 1441, 1443, 1445, 1447, 1449, 1451, 1453, 1455, 1457, 1459, 1461, 1463, 1465, 1467, 1469, 1471, 1473, 1475, 1477, 1479, 1481, 1483, 1485, 1487, 1489, 1491, 1493, 1495, 1497, 1499, 1501, 1503, 1505, 1507, 1509, 1511, 1513, 1515, 1517, 1519, 1521] : List Nat).getD j 0) (u_lay RX10 TX10 j)) = true := by decide +kernel
  exact wd_in (List.all_eq_true.mp h j (List.mem_range.mpr hj))
theorem kCY : CY lw_tbl kCl := by
  intro ci C T N h
  match ci, h with
  | 0, h => cases h; exact ⟨kws0, ⟨tyX0, tyX0_ok⟩, nmX0⟩
  | 1, h => cases h; exact ⟨kws1, ⟨tyX1, tyX1_ok⟩, nmX1⟩
  | 2, h => cases h; exact ⟨kws2, ⟨tyX2, tyX2_ok⟩, nmX2⟩
  | 3, h => cases h; exact ⟨kws3, ⟨tyX3, tyX3_ok⟩, nmX3⟩
  | 4, h => cases h; exact ⟨kws4, ⟨tyX4, tyX4_ok⟩, nmX4⟩
  | 5, h => cases h; exact ⟨kws5, ⟨tyX5, tyX5_ok⟩, nmX5⟩
  | 6, h => cases h; exact ⟨kws6, ⟨tyX6, tyX6_ok⟩, nmX6⟩
  | 7, h => cases h; exact ⟨kws7, ⟨tyX7, tyX7_ok⟩, nmX7⟩
  | 8, h => cases h; exact ⟨kws8, ⟨tyX8, tyX8_ok⟩, nmX8⟩
  | 9, h => cases h; exact ⟨kws9, ⟨tyX9, tyX9_ok⟩, nmX9⟩
  | 10, h => cases h; exact ⟨kws10, ⟨tyX10, tyX10_ok⟩, nmX10⟩
  | n + 11, h => simp [kCl] at h
