/-! names: classes, fields, methods, words (wip/tools/gen_names.py); RX, TX, tyX as the claim prints them -/
def RX0 : String := "LostSevens$Clerk"
def TX0 : u_T := fun k => match k with
  | 0 => ("LostSevens$Clerk", "wire", "LLostSevens$Message;", true)
  | 1 => ("LostSevens$Clerk", "stack", "[I", true)
  | _ => ("LostSevens$Clerk", "known", "[I", true)
def tyX0 : Nat → FieldType := fun k => match k with
  | 0 => .object "LostSevens$Message"
  | 1 => .array .int
  | _ => .array .int
theorem nmX0 : ∀ a, a < 3 → ∀ b, b < 3 → a ≠ b → (TX0 a).2.1 ≠ (TX0 b).2.1 := by decide +kernel
theorem tyX0_ok : ∀ k, k < 3 → parseFieldDescriptor (TX0 k).2.2.1 = some (tyX0 k) := by decide +kernel
def RX1 : String := "LostSevens$Coder"
def TX1 : u_T := fun k => match k with
  | 0 => ("LostSevens$Coder", "clerk", "LLostSevens$Clerk;", true)
  | 1 => ("LostSevens$Coder", "trial", "LLostSevens$Message;", true)
  | 2 => ("LostSevens$Coder", "mild", "[J", true)
  | 3 => ("LostSevens$Coder", "cold", "[J", true)
  | _ => ("LostSevens$Coder", "taken", "[I", true)
def tyX1 : Nat → FieldType := fun k => match k with
  | 0 => .object "LostSevens$Clerk"
  | 1 => .object "LostSevens$Message"
  | 2 => .array .long
  | 3 => .array .long
  | _ => .array .int
theorem nmX1 : ∀ a, a < 5 → ∀ b, b < 5 → a ≠ b → (TX1 a).2.1 ≠ (TX1 b).2.1 := by decide +kernel
theorem tyX1_ok : ∀ k, k < 5 → parseFieldDescriptor (TX1 k).2.2.1 = some (tyX1 k) := by decide +kernel
def RX2 : String := "LostSevens$Line"
def TX2 : u_T := fun k => match k with
  | 0 => ("LostSevens$Line", "first", "I", false)
  | 1 => ("LostSevens$Line", "second", "I", false)
  | 2 => ("LostSevens$Line", "kind", "I", false)
  | 3 => ("LostSevens$Line", "loses", "I", false)
  | 4 => ("LostSevens$Line", "freezes", "I", false)
  | 5 => ("LostSevens$Line", "odds", "I", false)
  | _ => ("LostSevens$Line", "frost", "I", false)
def tyX2 : Nat → FieldType := fun k => match k with
  | 0 => .int
  | 1 => .int
  | 2 => .int
  | 3 => .int
  | 4 => .int
  | 5 => .int
  | _ => .int
theorem nmX2 : ∀ a, a < 7 → ∀ b, b < 7 → a ≠ b → (TX2 a).2.1 ≠ (TX2 b).2.1 := by decide +kernel
theorem tyX2_ok : ∀ k, k < 7 → parseFieldDescriptor (TX2 k).2.2.1 = some (tyX2 k) := by decide +kernel
def RX3 : String := "LostSevens$Message"
def TX3 : u_T := fun k => match k with
  | 0 => ("LostSevens$Message", "digits", "[I", true)
  | _ => ("LostSevens$Message", "length", "I", false)
def tyX3 : Nat → FieldType := fun k => match k with
  | 0 => .array .int
  | _ => .int
theorem nmX3 : ∀ a, a < 2 → ∀ b, b < 2 → a ≠ b → (TX3 a).2.1 ≠ (TX3 b).2.1 := by decide +kernel
theorem tyX3_ok : ∀ k, k < 2 → parseFieldDescriptor (TX3 k).2.2.1 = some (tyX3 k) := by decide +kernel
def RX4 : String := "LostSevens$Parser"
def TX4 : u_T := fun k => match k with
  | 0 => ("LostSevens$Parser", "tape", "LLostSevens$Tape;", true)
  | 1 => ("LostSevens$Parser", "waiting", "[I", true)
  | 2 => ("LostSevens$Parser", "waitingCount", "I", false)
  | 3 => ("LostSevens$Parser", "open", "I", false)
  | 4 => ("LostSevens$Parser", "awaited", "I", false)
  | 5 => ("LostSevens$Parser", "compared", "Z", false)
  | 6 => ("LostSevens$Parser", "spare", "LLostSevens$Rules;", false)
  | 7 => ("LostSevens$Parser", "wrong", "I", false)
  | _ => ("LostSevens$Parser", "wrongPlace", "I", false)
def tyX4 : Nat → FieldType := fun k => match k with
  | 0 => .object "LostSevens$Tape"
  | 1 => .array .int
  | 2 => .int
  | 3 => .int
  | 4 => .int
  | 5 => .boolean
  | 6 => .object "LostSevens$Rules"
  | 7 => .int
  | _ => .int
theorem nmX4 : ∀ a, a < 9 → ∀ b, b < 9 → a ≠ b → (TX4 a).2.1 ≠ (TX4 b).2.1 := by decide +kernel
theorem tyX4_ok : ∀ k, k < 9 → parseFieldDescriptor (TX4 k).2.2.1 = some (tyX4 k) := by decide +kernel
def RX5 : String := "LostSevens$Past"
def TX5 : u_T := fun k => match k with
  | 0 => ("LostSevens$Past", "came", "[LLostSevens$Message;", true)
  | 1 => ("LostSevens$Past", "lostBy", "[[I", true)
  | 2 => ("LostSevens$Past", "bookLines", "[I", true)
  | 3 => ("LostSevens$Past", "sent", "[I", true)
  | 4 => ("LostSevens$Past", "creeping", "[J", true)
  | 5 => ("LostSevens$Past", "next", "I", false)
  | _ => ("LostSevens$Past", "count", "I", false)
def tyX5 : Nat → FieldType := fun k => match k with
  | 0 => .array (.object "LostSevens$Message")
  | 1 => .array (.array .int)
  | 2 => .array .int
  | 3 => .array .int
  | 4 => .array .long
  | 5 => .int
  | _ => .int
theorem nmX5 : ∀ a, a < 7 → ∀ b, b < 7 → a ≠ b → (TX5 a).2.1 ≠ (TX5 b).2.1 := by decide +kernel
theorem tyX5_ok : ∀ k, k < 7 → parseFieldDescriptor (TX5 k).2.2.1 = some (tyX5 k) := by decide +kernel
def RX6 : String := "LostSevens$Router"
def TX6 : u_T := fun k => match k with
  | 0 => ("LostSevens$Router", "clerk", "LLostSevens$Clerk;", true)
  | 1 => ("LostSevens$Router", "carried", "[LLostSevens$Message;", true)
  | 2 => ("LostSevens$Router", "way", "[I", true)
  | 3 => ("LostSevens$Router", "bestWay", "[I", true)
  | 4 => ("LostSevens$Router", "fewestLost", "I", false)
  | 5 => ("LostSevens$Router", "fewestLines", "I", false)
  | _ => ("LostSevens$Router", "goal", "I", false)
def tyX6 : Nat → FieldType := fun k => match k with
  | 0 => .object "LostSevens$Clerk"
  | 1 => .array (.object "LostSevens$Message")
  | 2 => .array .int
  | 3 => .array .int
  | 4 => .int
  | 5 => .int
  | _ => .int
theorem nmX6 : ∀ a, a < 7 → ∀ b, b < 7 → a ≠ b → (TX6 a).2.1 ≠ (TX6 b).2.1 := by decide +kernel
theorem tyX6_ok : ∀ k, k < 7 → parseFieldDescriptor (TX6 k).2.2.1 = some (tyX6 k) := by decide +kernel
def RX7 : String := "LostSevens$Rules"
def TX7 : u_T := fun k => match k with
  | 0 => ("LostSevens$Rules", "digit", "[I", true)
  | 1 => ("LostSevens$Rules", "size", "[I", true)
  | 2 => ("LostSevens$Rules", "spelled", "[I", true)
  | 3 => ("LostSevens$Rules", "begins", "[I", true)
  | 4 => ("LostSevens$Rules", "ends", "[I", true)
  | 5 => ("LostSevens$Rules", "steps", "[I", true)
  | 6 => ("LostSevens$Rules", "count", "I", false)
  | _ => ("LostSevens$Rules", "stepCount", "I", false)
def tyX7 : Nat → FieldType := fun k => match k with
  | 0 => .array .int
  | 1 => .array .int
  | 2 => .array .int
  | 3 => .array .int
  | 4 => .array .int
  | 5 => .array .int
  | 6 => .int
  | _ => .int
theorem nmX7 : ∀ a, a < 8 → ∀ b, b < 8 → a ≠ b → (TX7 a).2.1 ≠ (TX7 b).2.1 := by decide +kernel
theorem tyX7_ok : ∀ k, k < 8 → parseFieldDescriptor (TX7 k).2.2.1 = some (tyX7 k) := by decide +kernel
def RX8 : String := "LostSevens$Seeker"
def TX8 : u_T := fun k => match k with
  | 0 => ("LostSevens$Seeker", "clerk", "LLostSevens$Clerk;", true)
  | 1 => ("LostSevens$Seeker", "wanted", "LLostSevens$Message;", true)
  | 2 => ("LostSevens$Seeker", "avoided", "LLostSevens$Message;", true)
  | 3 => ("LostSevens$Seeker", "trial", "LLostSevens$Message;", true)
  | 4 => ("LostSevens$Seeker", "first", "LLostSevens$Message;", true)
  | 5 => ("LostSevens$Seeker", "found", "I", false)
  | 6 => ("LostSevens$Seeker", "lost", "I", false)
  | _ => ("LostSevens$Seeker", "avoids", "Z", false)
def tyX8 : Nat → FieldType := fun k => match k with
  | 0 => .object "LostSevens$Clerk"
  | 1 => .object "LostSevens$Message"
  | 2 => .object "LostSevens$Message"
  | 3 => .object "LostSevens$Message"
  | 4 => .object "LostSevens$Message"
  | 5 => .int
  | 6 => .int
  | _ => .boolean
theorem nmX8 : ∀ a, a < 8 → ∀ b, b < 8 → a ≠ b → (TX8 a).2.1 ≠ (TX8 b).2.1 := by decide +kernel
theorem tyX8_ok : ∀ k, k < 8 → parseFieldDescriptor (TX8 k).2.2.1 = some (tyX8 k) := by decide +kernel
def RX9 : String := "LostSevens$Tape"
def TX9 : u_T := fun k => match k with
  | 0 => ("LostSevens$Tape", "bytes", "[I", true)
  | 1 => ("LostSevens$Tape", "length", "I", false)
  | 2 => ("LostSevens$Tape", "place", "I", false)
  | 3 => ("LostSevens$Tape", "size", "I", false)
  | _ => ("LostSevens$Tape", "token", "I", false)
def tyX9 : Nat → FieldType := fun k => match k with
  | 0 => .array .int
  | 1 => .int
  | 2 => .int
  | 3 => .int
  | _ => .int
theorem nmX9 : ∀ a, a < 5 → ∀ b, b < 5 → a ≠ b → (TX9 a).2.1 ≠ (TX9 b).2.1 := by decide +kernel
theorem tyX9_ok : ∀ k, k < 5 → parseFieldDescriptor (TX9 k).2.2.1 = some (tyX9 k) := by decide +kernel
def RX10 : String := "LostSevens$World"
def TX10 : u_T := fun k => match k with
  | 0 => ("LostSevens$World", "lines", "[LLostSevens$Line;", true)
  | 1 => ("LostSevens$World", "rules", "[LLostSevens$Rules;", true)
  | 2 => ("LostSevens$World", "paper", "LLostSevens$Message;", true)
  | 3 => ("LostSevens$World", "seen", "LLostSevens$Message;", true)
  | 4 => ("LostSevens$World", "came", "LLostSevens$Message;", true)
  | 5 => ("LostSevens$World", "lostBy", "[I", true)
  | 6 => ("LostSevens$World", "pages", "[I", true)
  | 7 => ("LostSevens$World", "lookLine", "[I", true)
  | 8 => ("LostSevens$World", "lookLost", "[I", true)
  | 9 => ("LostSevens$World", "lookHeld", "[I", true)
  | 10 => ("LostSevens$World", "lineCount", "I", false)
  | 11 => ("LostSevens$World", "bookLines", "I", false)
  | 12 => ("LostSevens$World", "lookCount", "I", false)
  | 13 => ("LostSevens$World", "today", "I", false)
  | 14 => ("LostSevens$World", "draws", "I", false)
  | 15 => ("LostSevens$World", "sent", "I", false)
  | _ => ("LostSevens$World", "creeping", "J", false)
def tyX10 : Nat → FieldType := fun k => match k with
  | 0 => .array (.object "LostSevens$Line")
  | 1 => .array (.object "LostSevens$Rules")
  | 2 => .object "LostSevens$Message"
  | 3 => .object "LostSevens$Message"
  | 4 => .object "LostSevens$Message"
  | 5 => .array .int
  | 6 => .array .int
  | 7 => .array .int
  | 8 => .array .int
  | 9 => .array .int
  | 10 => .int
  | 11 => .int
  | 12 => .int
  | 13 => .int
  | 14 => .int
  | 15 => .int
  | _ => .long
theorem nmX10 : ∀ a, a < 17 → ∀ b, b < 17 → a ≠ b → (TX10 a).2.1 ≠ (TX10 b).2.1 := by decide +kernel
theorem tyX10_ok : ∀ k, k < 17 → parseFieldDescriptor (TX10 k).2.2.1 = some (tyX10 k) := by decide +kernel
def RX11 : String := "LostSevens"
def TX11 : u_T := fun k => match k with
  | 0 => ("LostSevens", "world", "LLostSevens$World;", true)
  | 1 => ("LostSevens", "past", "LLostSevens$Past;", true)
  | 2 => ("LostSevens", "tape", "LLostSevens$Tape;", true)
  | 3 => ("LostSevens", "parser", "LLostSevens$Parser;", true)
  | 4 => ("LostSevens", "clerk", "LLostSevens$Clerk;", true)
  | 5 => ("LostSevens", "seeker", "LLostSevens$Seeker;", true)
  | 6 => ("LostSevens", "coder", "LLostSevens$Coder;", true)
  | 7 => ("LostSevens", "router", "LLostSevens$Router;", true)
  | 8 => ("LostSevens", "thought", "LLostSevens$Message;", true)
  | 9 => ("LostSevens", "route", "[I", true)
  | _ => ("LostSevens", "kept", "LLostSevens$World;", false)
def tyX11 : Nat → FieldType := fun k => match k with
  | 0 => .object "LostSevens$World"
  | 1 => .object "LostSevens$Past"
  | 2 => .object "LostSevens$Tape"
  | 3 => .object "LostSevens$Parser"
  | 4 => .object "LostSevens$Clerk"
  | 5 => .object "LostSevens$Seeker"
  | 6 => .object "LostSevens$Coder"
  | 7 => .object "LostSevens$Router"
  | 8 => .object "LostSevens$Message"
  | 9 => .array .int
  | _ => .object "LostSevens$World"
theorem nmX11 : ∀ a, a < 11 → ∀ b, b < 11 → a ≠ b → (TX11 a).2.1 ≠ (TX11 b).2.1 := by decide +kernel
theorem tyX11_ok : ∀ k, k < 11 → parseFieldDescriptor (TX11 k).2.2.1 = some (tyX11 k) := by decide +kernel
def RX12 : String := "LostSevensModel"
def TX12 : u_T := fun k => match k with
  | 0 => ("LostSevensModel", "w", "[I", true)
  | 1 => ("LostSevensModel", "kept", "[I", true)
  | 2 => ("LostSevensModel", "back", "[I", true)
  | 3 => ("LostSevensModel", "backCreep", "[J", true)
  | 4 => ("LostSevensModel", "backMany", "I", false)
  | 5 => ("LostSevensModel", "creep", "J", false)
  | 6 => ("LostSevensModel", "keptCreep", "J", false)
  | 7 => ("LostSevensModel", "hasImage", "Z", false)
  | 8 => ("LostSevensModel", "fresh", "[I", true)
  | 9 => ("LostSevensModel", "freshStep", "[I", true)
  | 10 => ("LostSevensModel", "tape", "[I", true)
  | 11 => ("LostSevensModel", "pile", "[I", true)
  | 12 => ("LostSevensModel", "facts", "[I", true)
  | 13 => ("LostSevensModel", "lines", "I", false)
  | 14 => ("LostSevensModel", "steps", "I", false)
  | 15 => ("LostSevensModel", "taped", "I", false)
  | 16 => ("LostSevensModel", "at", "I", false)
  | 17 => ("LostSevensModel", "token", "I", false)
  | 18 => ("LostSevensModel", "tokenAt", "I", false)
  | 19 => ("LostSevensModel", "value", "I", false)
  | 20 => ("LostSevensModel", "wrong", "I", false)
  | 21 => ("LostSevensModel", "wrongAt", "I", false)
  | 22 => ("LostSevensModel", "faultKind", "I", false)
  | 23 => ("LostSevensModel", "depth", "I", false)
  | 24 => ("LostSevensModel", "faultPlace", "I", false)
  | 25 => ("LostSevensModel", "message", "[I", true)
  | 26 => ("LostSevensModel", "made", "[I", true)
  | 27 => ("LostSevensModel", "messageMany", "I", false)
  | 28 => ("LostSevensModel", "madeMany", "I", false)
  | 29 => ("LostSevensModel", "wanted", "[I", true)
  | 30 => ("LostSevensModel", "taken", "[I", true)
  | 31 => ("LostSevensModel", "couldCome", "[I", true)
  | 32 => ("LostSevensModel", "couldMany", "[I", true)
  | 33 => ("LostSevensModel", "takenMany", "I", false)
  | 34 => ("LostSevensModel", "lying", "[I", true)
  | 35 => ("LostSevensModel", "lyingMany", "[I", true)
  | 36 => ("LostSevensModel", "wayRow", "[I", true)
  | 37 => ("LostSevensModel", "bestRow", "[I", true)
  | 38 => ("LostSevensModel", "bestLost", "I", false)
  | _ => ("LostSevensModel", "bestLines", "I", false)
def tyX12 : Nat → FieldType := fun k => match k with
  | 0 => .array .int
  | 1 => .array .int
  | 2 => .array .int
  | 3 => .array .long
  | 4 => .int
  | 5 => .long
  | 6 => .long
  | 7 => .boolean
  | 8 => .array .int
  | 9 => .array .int
  | 10 => .array .int
  | 11 => .array .int
  | 12 => .array .int
  | 13 => .int
  | 14 => .int
  | 15 => .int
  | 16 => .int
  | 17 => .int
  | 18 => .int
  | 19 => .int
  | 20 => .int
  | 21 => .int
  | 22 => .int
  | 23 => .int
  | 24 => .int
  | 25 => .array .int
  | 26 => .array .int
  | 27 => .int
  | 28 => .int
  | 29 => .array .int
  | 30 => .array .int
  | 31 => .array .int
  | 32 => .array .int
  | 33 => .int
  | 34 => .array .int
  | 35 => .array .int
  | 36 => .array .int
  | 37 => .array .int
  | 38 => .int
  | _ => .int
theorem nmX12 : ∀ a, a < 40 → ∀ b, b < 40 → a ≠ b → (TX12 a).2.1 ≠ (TX12 b).2.1 := by decide +kernel
theorem tyX12_ok : ∀ k, k < 40 → parseFieldDescriptor (TX12 k).2.2.1 = some (tyX12 k) := by decide +kernel
abbrev mk_cl : List vw_C := [(RX0, TX0, 3), (RX1, TX1, 5), (RX2, TX2, 7), (RX3, TX3, 2), (RX4, TX4, 9), (RX5, TX5, 7), (RX6, TX6, 7), (RX7, TX7, 8), (RX8, TX8, 8), (RX9, TX9, 5), (RX10, TX10, 17), (RX11, TX11, 11), (RX12, TX12, 40)]
def mk_ft : List (List Nat) := [[2, 2, 2], [2, 2, 2, 2, 2], [0, 0, 0, 0, 0, 0, 0], [2, 0], [2, 2, 0, 0, 0, 3, 2, 0, 0], [2, 2, 2, 2, 2, 0, 0], [2, 2, 2, 2, 0, 0, 0], [2, 2, 2, 2, 2, 2, 0, 0], [2, 2, 2, 2, 2, 0, 0, 3], [2, 0, 0, 0, 0], [2, 2, 2, 2, 2, 2, 2, 2, 2, 2, 0, 0, 0, 0, 0, 0, 1], [2, 2, 2, 2, 2, 2, 2, 2, 2, 2, 2], [2, 2, 2, 2, 0, 1, 1, 3, 2, 2, 2, 2, 2, 0, 0, 0, 0, 0, 0, 0, 0, 0, 0, 0, 0, 2, 2, 0, 0, 2, 2, 2, 2, 0, 2, 2, 2, 2, 0, 0]]
def mk_wt : List Cond := lw_tbl.filter goodWord
theorem mk_wt_in {w : Cond} (i : Nat) (h : tables_1[i]? = some w) (g : goodWord w = true) : w ∈ mk_wt := List.mem_filter.mpr ⟨List.mem_append_right _ (List.mem_of_getElem? h), g⟩
theorem mk_wt_sel {w : Cond} (i : Nat) (h : (k2_sels lw_privs)[i]? = some w) (g : goodWord w = true) : w ∈ mk_wt := List.mem_filter.mpr ⟨List.mem_append_left _ (List.mem_of_getElem? h), g⟩
theorem inX0 : ∀ w ∈ u_ws RX0 TX0 3, w ∈ mk_wt := by
  intro w hw
  obtain ⟨k, hk, rfl⟩ := List.mem_map.mp hw
  have hk : k < 3 := List.mem_range.mp hk
  have h : ∀ k, k < 3 → tables_1[([344, 346, 348] : List Nat).getD k 0]? = some (u_lay RX0 TX0 k) ∧ goodWord (u_lay RX0 TX0 k) = true := by decide +kernel
  exact mk_wt_in _ (h k hk).1 (h k hk).2
theorem inX1 : ∀ w ∈ u_ws RX1 TX1 5, w ∈ mk_wt := by
  intro w hw
  obtain ⟨k, hk, rfl⟩ := List.mem_map.mp hw
  have hk : k < 5 := List.mem_range.mp hk
  have h : ∀ k, k < 5 → tables_1[([400, 402, 404, 406, 408] : List Nat).getD k 0]? = some (u_lay RX1 TX1 k) ∧ goodWord (u_lay RX1 TX1 k) = true := by decide +kernel
  exact mk_wt_in _ (h k hk).1 (h k hk).2
theorem inX2 : ∀ w ∈ u_ws RX2 TX2 7, w ∈ mk_wt := by
  intro w hw
  obtain ⟨k, hk, rfl⟩ := List.mem_map.mp hw
  have hk : k < 7 := List.mem_range.mp hk
  have h : ∀ k, k < 7 → tables_1[([88, 90, 92, 94, 96, 98, 100] : List Nat).getD k 0]? = some (u_lay RX2 TX2 k) ∧ goodWord (u_lay RX2 TX2 k) = true := by decide +kernel
  exact mk_wt_in _ (h k hk).1 (h k hk).2
theorem inX3 : ∀ w ∈ u_ws RX3 TX3 2, w ∈ mk_wt := by
  intro w hw
  obtain ⟨k, hk, rfl⟩ := List.mem_map.mp hw
  have hk : k < 2 := List.mem_range.mp hk
  have h : ∀ k, k < 2 → tables_1[([58, 60] : List Nat).getD k 0]? = some (u_lay RX3 TX3 k) ∧ goodWord (u_lay RX3 TX3 k) = true := by decide +kernel
  exact mk_wt_in _ (h k hk).1 (h k hk).2
theorem inX4 : ∀ w ∈ u_ws RX4 TX4 9, w ∈ mk_wt := by
  intro w hw
  obtain ⟨k, hk, rfl⟩ := List.mem_map.mp hw
  have hk : k < 9 := List.mem_range.mp hk
  have h : ∀ k, k < 9 → tables_1[([311, 313, 315, 317, 319, 321, 323, 325, 327] : List Nat).getD k 0]? = some (u_lay RX4 TX4 k) ∧ goodWord (u_lay RX4 TX4 k) = true := by decide +kernel
  exact mk_wt_in _ (h k hk).1 (h k hk).2
theorem inX5 : ∀ w ∈ u_ws RX5 TX5 7, w ∈ mk_wt := by
  intro w hw
  obtain ⟨k, hk, rfl⟩ := List.mem_map.mp hw
  have hk : k < 7 := List.mem_range.mp hk
  have h : ∀ k, k < 7 → tables_1[([250, 252, 254, 256, 258, 260, 262] : List Nat).getD k 0]? = some (u_lay RX5 TX5 k) ∧ goodWord (u_lay RX5 TX5 k) = true := by decide +kernel
  exact mk_wt_in _ (h k hk).1 (h k hk).2
theorem inX6 : ∀ w ∈ u_ws RX6 TX6 7, w ∈ mk_wt := by
  intro w hw
  obtain ⟨k, hk, rfl⟩ := List.mem_map.mp hw
  have hk : k < 7 := List.mem_range.mp hk
  have h : ∀ k, k < 7 → tables_1[([429, 431, 433, 435, 437, 439, 441] : List Nat).getD k 0]? = some (u_lay RX6 TX6 k) ∧ goodWord (u_lay RX6 TX6 k) = true := by decide +kernel
  exact mk_wt_in _ (h k hk).1 (h k hk).2
theorem inX7 : ∀ w ∈ u_ws RX7 TX7 8, w ∈ mk_wt := by
  intro w hw
  obtain ⟨k, hk, rfl⟩ := List.mem_map.mp hw
  have hk : k < 8 := List.mem_range.mp hk
  have h : ∀ k, k < 8 → tables_1[([127, 129, 131, 133, 135, 137, 139, 141] : List Nat).getD k 0]? = some (u_lay RX7 TX7 k) ∧ goodWord (u_lay RX7 TX7 k) = true := by decide +kernel
  exact mk_wt_in _ (h k hk).1 (h k hk).2
theorem inX8 : ∀ w ∈ u_ws RX8 TX8 8, w ∈ mk_wt := by
  intro w hw
  obtain ⟨k, hk, rfl⟩ := List.mem_map.mp hw
  have hk : k < 8 := List.mem_range.mp hk
  have h : ∀ k, k < 8 → tables_1[([369, 371, 373, 375, 377, 379, 381, 383] : List Nat).getD k 0]? = some (u_lay RX8 TX8 k) ∧ goodWord (u_lay RX8 TX8 k) = true := by decide +kernel
  exact mk_wt_in _ (h k hk).1 (h k hk).2
theorem inX9 : ∀ w ∈ u_ws RX9 TX9 5, w ∈ mk_wt := by
  intro w hw
  obtain ⟨k, hk, rfl⟩ := List.mem_map.mp hw
  have hk : k < 5 := List.mem_range.mp hk
  have h : ∀ k, k < 5 → tables_1[([281, 283, 285, 287, 289] : List Nat).getD k 0]? = some (u_lay RX9 TX9 k) ∧ goodWord (u_lay RX9 TX9 k) = true := by decide +kernel
  exact mk_wt_in _ (h k hk).1 (h k hk).2
theorem inX10 : ∀ w ∈ u_ws RX10 TX10 17, w ∈ mk_wt := by
  intro w hw
  obtain ⟨k, hk, rfl⟩ := List.mem_map.mp hw
  have hk : k < 17 := List.mem_range.mp hk
  have h : ∀ k, k < 17 → tables_1[([196, 198, 200, 202, 204, 206, 208, 210, 212, 214, 216, 218, 220, 222, 224, 226, 228] : List Nat).getD k 0]? = some (u_lay RX10 TX10 k) ∧ goodWord (u_lay RX10 TX10 k) = true := by decide +kernel
  exact mk_wt_in _ (h k hk).1 (h k hk).2
theorem inX11 : ∀ w ∈ u_ws RX11 TX11 11, w ∈ mk_wt := by
  intro w hw
  obtain ⟨k, hk, rfl⟩ := List.mem_map.mp hw
  have hk : k < 11 := List.mem_range.mp hk
  have h : ∀ k, k < 11 → tables_1[([457, 459, 461, 463, 465, 467, 469, 471, 473, 475, 477] : List Nat).getD k 0]? = some (u_lay RX11 TX11 k) ∧ goodWord (u_lay RX11 TX11 k) = true := by decide +kernel
  exact mk_wt_in _ (h k hk).1 (h k hk).2
theorem inX12 : ∀ w ∈ u_ws RX12 TX12 40, w ∈ mk_wt := by
  intro w hw
  obtain ⟨k, hk, rfl⟩ := List.mem_map.mp hw
  have hk : k < 40 := List.mem_range.mp hk
  have h : ∀ k, k < 40 → tables_1[([1135, 1137, 1139, 1141, 1143, 1145, 1147, 1149, 1151, 1153, 1155, 1157, 1159, 1161, 1163, 1165, 1167, 1169, 1171, 1173, 1175, 1177, 1179, 1181, 1183, 1185, 1187, 1189, 1191, 1193, 1195, 1197, 1199, 1201, 1203, 1205, 1207, 1209, 1211, 1213] : List Nat).getD k 0]? = some (u_lay RX12 TX12 k) ∧ goodWord (u_lay RX12 TX12 k) = true := by decide +kernel
  exact mk_wt_in _ (h k hk).1 (h k hk).2
def mk_nm0 (y : Nat) : MethodName := match y with
  | 0 => ⟨"LostSevens$Clerk", "<init>", "()V"⟩
  | 1 => ⟨"LostSevens$Clerk", "carry", "(LLostSevens$World;LLostSevens$Line;ILLostSevens$Message;LLostSevens$Message;)I"⟩
  | 2 => ⟨"LostSevens$Clerk", "translate", "(LLostSevens$Rules;IILLostSevens$Message;)V"⟩
  | 3 => ⟨"LostSevens$Clerk", "begin", "(II)V"⟩
  | 4 => ⟨"LostSevens$Clerk", "ruleAt", "(LLostSevens$Rules;LLostSevens$Message;I)I"⟩
  | 5 => ⟨"LostSevens$Clerk", "holds", "(LLostSevens$Rules;I)Z"⟩
  | 6 => ⟨"LostSevens$Clerk", "isOperand", "(I)Z"⟩
  | 7 => ⟨"LostSevens$Clerk", "join", "(III)I"⟩
  | 8 => ⟨"LostSevens$Coder", "<init>", "(LLostSevens$Clerk;)V"⟩
  | 9 => ⟨"LostSevens$Coder", "findLength", "(LLostSevens$World;LLostSevens$Line;I)I"⟩
  | 10 => ⟨"LostSevens$Coder", "takes", "(LLostSevens$World;LLostSevens$Line;III)Z"⟩
  | 11 => ⟨"LostSevens$Coder", "spell", "(II)V"⟩
  | 12 => ⟨"LostSevens$Coder", "whatComes", "(LLostSevens$World;LLostSevens$Line;I)J"⟩
  | 13 => ⟨"LostSevens$Coder", "isNew", "(JI)Z"⟩
  | 14 => ⟨"LostSevens$Line", "<init>", "()V"⟩
  | 15 => ⟨"LostSevens$Line", "otherEnd", "(I)I"⟩
  | _ => ⟨"", "", ""⟩
def mk_nm1 (y : Nat) : MethodName := match y with
  | 0 => ⟨"LostSevens$Line", "lostDigits", "(I)I"⟩
  | 1 => ⟨"LostSevens$Line", "copyFrom", "(LLostSevens$Line;)V"⟩
  | 2 => ⟨"LostSevens$Message", "<init>", "()V"⟩
  | 3 => ⟨"LostSevens$Message", "clear", "()V"⟩
  | 4 => ⟨"LostSevens$Message", "append", "(I)V"⟩
  | 5 => ⟨"LostSevens$Message", "digitAt", "(II)I"⟩
  | 6 => ⟨"LostSevens$Message", "copyFrom", "(LLostSevens$Message;)V"⟩
  | 7 => ⟨"LostSevens$Message", "sameAs", "(LLostSevens$Message;)Z"⟩
  | 8 => ⟨"LostSevens$Message", "value", "()J"⟩
  | 9 => ⟨"LostSevens$Message", "digitSet", "()I"⟩
  | 10 => ⟨"LostSevens$Message", "keepFrom", "(LLostSevens$Message;I)I"⟩
  | 11 => ⟨"LostSevens$Parser", "<init>", "(LLostSevens$Tape;)V"⟩
  | 12 => ⟨"LostSevens$Parser", "clearFault", "()V"⟩
  | 13 => ⟨"LostSevens$Parser", "readTape", "()Z"⟩
  | 14 => ⟨"LostSevens$Parser", "exchange", "(LLostSevens$Rules;)LLostSevens$Rules;"⟩
  | 15 => ⟨"LostSevens$Parser", "refuse", "(I)Z"⟩
  | _ => ⟨"", "", ""⟩
def mk_nm2 (y : Nat) : MethodName := match y with
  | 0 => ⟨"LostSevens$Parser", "pass", "(I)Z"⟩
  | 1 => ⟨"LostSevens$Parser", "passRule", "()Z"⟩
  | 2 => ⟨"LostSevens$Parser", "passReplacement", "()Z"⟩
  | 3 => ⟨"LostSevens$Parser", "passCondition", "()Z"⟩
  | 4 => ⟨"LostSevens$Parser", "takeToken", "()Z"⟩
  | 5 => ⟨"LostSevens$Parser", "takeClaim", "()Z"⟩
  | 6 => ⟨"LostSevens$Parser", "takeOperand", "()Z"⟩
  | 7 => ⟨"LostSevens$Parser", "takeDivisor", "()Z"⟩
  | 8 => ⟨"LostSevens$Parser", "takeJoint", "()Z"⟩
  | 9 => ⟨"LostSevens$Parser", "canJoin", "(I)Z"⟩
  | 10 => ⟨"LostSevens$Parser", "takeEnd", "()Z"⟩
  | 11 => ⟨"LostSevens$Parser", "await", "(II)Z"⟩
  | 12 => ⟨"LostSevens$Parser", "settle", "(I)V"⟩
  | 13 => ⟨"LostSevens$Parser", "strengthOf", "(I)I"⟩
  | 14 => ⟨"LostSevens$Past", "<init>", "()V"⟩
  | 15 => ⟨"LostSevens$Past", "forget", "()V"⟩
  | _ => ⟨"", "", ""⟩
def mk_nm3 (y : Nat) : MethodName := match y with
  | 0 => ⟨"LostSevens$Past", "remember", "(LLostSevens$World;)V"⟩
  | 1 => ⟨"LostSevens$Past", "goBack", "(LLostSevens$World;)Z"⟩
  | 2 => ⟨"LostSevens$Router", "<init>", "(LLostSevens$Clerk;)V"⟩
  | 3 => ⟨"LostSevens$Router", "search", "(LLostSevens$World;II)V"⟩
  | 4 => ⟨"LostSevens$Router", "goOn", "(LLostSevens$World;IIII)V"⟩
  | 5 => ⟨"LostSevens$Router", "goTo", "(LLostSevens$World;IIII)V"⟩
  | 6 => ⟨"LostSevens$Router", "isBetter", "(II)Z"⟩
  | 7 => ⟨"LostSevens$Rules", "<init>", "()V"⟩
  | 8 => ⟨"LostSevens$Rules", "clear", "()V"⟩
  | 9 => ⟨"LostSevens$Rules", "begin", "(I)V"⟩
  | 10 => ⟨"LostSevens$Rules", "spell", "(I)V"⟩
  | 11 => ⟨"LostSevens$Rules", "addStep", "(I)V"⟩
  | 12 => ⟨"LostSevens$Rules", "copyFrom", "(LLostSevens$Rules;)V"⟩
  | 13 => ⟨"LostSevens$Seeker", "<init>", "(LLostSevens$Clerk;)V"⟩
  | 14 => ⟨"LostSevens$Seeker", "wantSeen", "(LLostSevens$World;)V"⟩
  | 15 => ⟨"LostSevens$Seeker", "wantTwin", "(LLostSevens$World;LLostSevens$Line;I)V"⟩
  | _ => ⟨"", "", ""⟩
def mk_nm4 (y : Nat) : MethodName := match y with
  | 0 => ⟨"LostSevens$Seeker", "seek", "(LLostSevens$World;LLostSevens$Line;II)V"⟩
  | 1 => ⟨"LostSevens$Seeker", "isOver", "()Z"⟩
  | 2 => ⟨"LostSevens$Seeker", "chooseAt", "(LLostSevens$Rules;II)V"⟩
  | 3 => ⟨"LostSevens$Seeker", "goOnFrom", "(LLostSevens$Rules;II)V"⟩
  | 4 => ⟨"LostSevens$Seeker", "follow", "(LLostSevens$Rules;II)I"⟩
  | 5 => ⟨"LostSevens$Seeker", "meet", "(II)I"⟩
  | 6 => ⟨"LostSevens$Seeker", "judge", "(I)V"⟩
  | 7 => ⟨"LostSevens$Tape", "<init>", "()V"⟩
  | 8 => ⟨"LostSevens$Tape", "append", "(I)V"⟩
  | 9 => ⟨"LostSevens$Tape", "rewind", "()V"⟩
  | 10 => ⟨"LostSevens$Tape", "advance", "()V"⟩
  | 11 => ⟨"LostSevens$Tape", "numeralHere", "(I)I"⟩
  | 12 => ⟨"LostSevens$Tape", "numberHere", "()I"⟩
  | 13 => ⟨"LostSevens$Tape", "lettersFrom", "(I)I"⟩
  | 14 => ⟨"LostSevens$Tape", "numeralsFrom", "(I)I"⟩
  | 15 => ⟨"LostSevens$Tape", "keywordHere", "()I"⟩
  | _ => ⟨"", "", ""⟩
def mk_nm5 (y : Nat) : MethodName := match y with
  | 0 => ⟨"LostSevens$Tape", "spells", "(I)Z"⟩
  | 1 => ⟨"LostSevens$Tape", "isBlank", "(I)Z"⟩
  | 2 => ⟨"LostSevens$Tape", "isLetter", "(I)Z"⟩
  | 3 => ⟨"LostSevens$Tape", "isNumeral", "(I)Z"⟩
  | 4 => ⟨"LostSevens$World", "<init>", "()V"⟩
  | 5 => ⟨"LostSevens$World", "hasLine", "(I)Z"⟩
  | 6 => ⟨"LostSevens$World", "drawThousand", "()I"⟩
  | 7 => ⟨"LostSevens$World", "keepLoss", "(III)V"⟩
  | 8 => ⟨"LostSevens$World", "keepLook", "(I)V"⟩
  | 9 => ⟨"LostSevens$World", "showsWithout", "(I)Z"⟩
  | 10 => ⟨"LostSevens$World", "copyFrom", "(LLostSevens$World;)V"⟩
  | 11 => ⟨"LostSevens", "<init>", "()V"⟩
  | 12 => ⟨"LostSevens", "state", "(I)I"⟩
  | 13 => ⟨"LostSevens", "line", "(IIIIII)I"⟩
  | 14 => ⟨"LostSevens", "set", "(III)Z"⟩
  | 15 => ⟨"LostSevens", "write", "(II)I"⟩
  | _ => ⟨"", "", ""⟩
def mk_nm6 (y : Nat) : MethodName := match y with
  | 0 => ⟨"LostSevens", "blank", "(I)I"⟩
  | 1 => ⟨"LostSevens", "read", "(II)I"⟩
  | 2 => ⟨"LostSevens", "feed", "(IIIII)I"⟩
  | 3 => ⟨"LostSevens", "end", "(I)Z"⟩
  | 4 => ⟨"LostSevens", "text", "(I)I"⟩
  | 5 => ⟨"LostSevens", "fault", "(I)I"⟩
  | 6 => ⟨"LostSevens", "send", "(IIIII)I"⟩
  | 7 => ⟨"LostSevens", "day", "()I"⟩
  | 8 => ⟨"LostSevens", "of", "(II)I"⟩
  | 9 => ⟨"LostSevens", "book", "(II)I"⟩
  | 10 => ⟨"LostSevens", "creep", "()J"⟩
  | 11 => ⟨"LostSevens", "comes", "(III)I"⟩
  | 12 => ⟨"LostSevens", "meant", "(IIII)I"⟩
  | 13 => ⟨"LostSevens", "twin", "(III)I"⟩
  | 14 => ⟨"LostSevens", "code", "(III)I"⟩
  | 15 => ⟨"LostSevens", "best", "(III)I"⟩
  | _ => ⟨"", "", ""⟩
def mk_nm7 (y : Nat) : MethodName := match y with
  | 0 => ⟨"LostSevens", "clerks", "()I"⟩
  | 1 => ⟨"LostSevens", "look", "(I)I"⟩
  | 2 => ⟨"LostSevens", "cure", "(II)I"⟩
  | 3 => ⟨"LostSevens", "undo", "()Z"⟩
  | 4 => ⟨"LostSevens", "image", "(Z)Z"⟩
  | 5 => ⟨"LostSevens", "tells", "(I)I"⟩
  | 6 => ⟨"LostSevens", "isStation", "(I)Z"⟩
  | 7 => ⟨"LostSevens", "isKind", "(I)Z"⟩
  | 8 => ⟨"LostSevens", "isSet", "(I)Z"⟩
  | 9 => ⟨"LostSevens", "isOdds", "(I)Z"⟩
  | 10 => ⟨"LostSevens", "isFlag", "(I)Z"⟩
  | 11 => ⟨"LostSevens", "isDigit", "(I)Z"⟩
  | 12 => ⟨"LostSevens", "canBeSet", "(II)Z"⟩
  | 13 => ⟨"LostSevens", "messageOf", "(I)LLostSevens$Message;"⟩
  | 14 => ⟨"LostSevens", "lengthOrDigit", "(LLostSevens$Message;I)I"⟩
  | 15 => ⟨"LostSevens", "digitOfRow", "(LLostSevens$Message;I)I"⟩
  | _ => ⟨"", "", ""⟩
def mk_nm8 (y : Nat) : MethodName := match y with
  | 0 => ⟨"LostSevens", "linesOfRoute", "(I)I"⟩
  | 1 => ⟨"LostSevens", "carryForGood", "(ILLostSevens$Message;)V"⟩
  | 2 => ⟨"LostSevensModel", "<init>", "()V"⟩
  | 3 => ⟨"LostSevensModel", "isIn", "(III)Z"⟩
  | 4 => ⟨"LostSevensModel", "isLine", "(I)Z"⟩
  | 5 => ⟨"LostSevensModel", "own", "(II)I"⟩
  | 6 => ⟨"LostSevensModel", "gives", "(III)V"⟩
  | 7 => ⟨"LostSevensModel", "isStation", "(I)Z"⟩
  | 8 => ⟨"LostSevensModel", "state", "(I)I"⟩
  | 9 => ⟨"LostSevensModel", "draw", "(I)I"⟩
  | 10 => ⟨"LostSevensModel", "line", "(IIIIII)I"⟩
  | 11 => ⟨"LostSevensModel", "set", "(III)Z"⟩
  | 12 => ⟨"LostSevensModel", "write", "(II)I"⟩
  | 13 => ⟨"LostSevensModel", "blank", "(I)I"⟩
  | 14 => ⟨"LostSevensModel", "read", "(II)I"⟩
  | 15 => ⟨"LostSevensModel", "feed", "(IIIII)I"⟩
  | _ => ⟨"", "", ""⟩
def mk_nm9 (y : Nat) : MethodName := match y with
  | 0 => ⟨"LostSevensModel", "end", "(I)Z"⟩
  | 1 => ⟨"LostSevensModel", "see", "(I)I"⟩
  | 2 => ⟨"LostSevensModel", "isLetter", "(I)Z"⟩
  | 3 => ⟨"LostSevensModel", "isDigit", "(I)Z"⟩
  | 4 => ⟨"LostSevensModel", "is", "(Ljava/lang/String;)Z"⟩
  | 5 => ⟨"LostSevensModel", "nameWord", "()I"⟩
  | 6 => ⟨"LostSevensModel", "word", "()I"⟩
  | 7 => ⟨"LostSevensModel", "next0", "()V"⟩
  | 8 => ⟨"LostSevensModel", "bad", "(I)Z"⟩
  | 9 => ⟨"LostSevensModel", "need", "(I)Z"⟩
  | 10 => ⟨"LostSevensModel", "lay", "(II)V"⟩
  | 11 => ⟨"LostSevensModel", "opens", "()Z"⟩
  | 12 => ⟨"LostSevensModel", "sumUp", "()Z"⟩
  | 13 => ⟨"LostSevensModel", "product", "()Z"⟩
  | 14 => ⟨"LostSevensModel", "unit", "()Z"⟩
  | 15 => ⟨"LostSevensModel", "any", "()Z"⟩
  | _ => ⟨"", "", ""⟩
def mk_nm10 (y : Nat) : MethodName := match y with
  | 0 => ⟨"LostSevensModel", "every", "()Z"⟩
  | 1 => ⟨"LostSevensModel", "oneTest", "()Z"⟩
  | 2 => ⟨"LostSevensModel", "aLine", "()Z"⟩
  | 3 => ⟨"LostSevensModel", "text", "(I)I"⟩
  | 4 => ⟨"LostSevensModel", "fault", "(I)I"⟩
  | 5 => ⟨"LostSevensModel", "both", "(III)I"⟩
  | 6 => ⟨"LostSevensModel", "comesTo", "(III)I"⟩
  | 7 => ⟨"LostSevensModel", "puts", "(I)V"⟩
  | 8 => ⟨"LostSevensModel", "ruleFor", "(II)I"⟩
  | 9 => ⟨"LostSevensModel", "tenTo", "(I)I"⟩
  | 10 => ⟨"LostSevensModel", "makes", "(II)V"⟩
  | 11 => ⟨"LostSevensModel", "writes", "(III)V"⟩
  | 12 => ⟨"LostSevensModel", "goesBy", "(IIZ)I"⟩
  | 13 => ⟨"LostSevensModel", "takesPaper", "()V"⟩
  | 14 => ⟨"LostSevensModel", "otherEnd", "(II)I"⟩
  | 15 => ⟨"LostSevensModel", "keeps", "()V"⟩
  | _ => ⟨"", "", ""⟩
def mk_nm11 (y : Nat) : MethodName := match y with
  | 0 => ⟨"LostSevensModel", "undo", "()Z"⟩
  | 1 => ⟨"LostSevensModel", "valueOf", "(II)I"⟩
  | 2 => ⟨"LostSevensModel", "send", "(IIIII)I"⟩
  | 3 => ⟨"LostSevensModel", "day", "()I"⟩
  | 4 => ⟨"LostSevensModel", "of", "(II)I"⟩
  | 5 => ⟨"LostSevensModel", "book", "(II)I"⟩
  | 6 => ⟨"LostSevensModel", "creep", "()J"⟩
  | 7 => ⟨"LostSevensModel", "isFrost", "(II)Z"⟩
  | 8 => ⟨"LostSevensModel", "comes", "(III)I"⟩
  | 9 => ⟨"LostSevensModel", "takesNumber", "(II)V"⟩
  | 10 => ⟨"LostSevensModel", "powerOf", "(I)I"⟩
  | 11 => ⟨"LostSevensModel", "isSeen", "()Z"⟩
  | 12 => ⟨"LostSevensModel", "digitOf", "(III)I"⟩
  | 13 => ⟨"LostSevensModel", "meant", "(IIII)I"⟩
  | 14 => ⟨"LostSevensModel", "isPaper", "(II)Z"⟩
  | 15 => ⟨"LostSevensModel", "twin", "(III)I"⟩
  | _ => ⟨"", "", ""⟩
def mk_nm12 (y : Nat) : MethodName := match y with
  | 0 => ⟨"LostSevensModel", "couldComeOf", "(I)Z"⟩
  | 1 => ⟨"LostSevensModel", "tries", "(III)V"⟩
  | 2 => ⟨"LostSevensModel", "code", "(III)I"⟩
  | 3 => ⟨"LostSevensModel", "lies", "(I)V"⟩
  | 4 => ⟨"LostSevensModel", "comesBack", "(I)V"⟩
  | 5 => ⟨"LostSevensModel", "seeks", "(IIIII)V"⟩
  | 6 => ⟨"LostSevensModel", "best", "(III)I"⟩
  | 7 => ⟨"LostSevensModel", "clerks", "()I"⟩
  | 8 => ⟨"LostSevensModel", "clerksOf", "(I)V"⟩
  | 9 => ⟨"LostSevensModel", "look", "(I)I"⟩
  | 10 => ⟨"LostSevensModel", "isSo", "(II)Z"⟩
  | 11 => ⟨"LostSevensModel", "cure", "(II)I"⟩
  | 12 => ⟨"LostSevensModel", "image", "(Z)Z"⟩
  | 13 => ⟨"LostSevensModel", "tells", "(I)I"⟩
  | 14 => ⟨"java/lang/Integer", "bitCount", "(I)I"⟩
  | 15 => ⟨"java/lang/String", "length", "()I"⟩
  | _ => ⟨"", "", ""⟩
def mk_nm13 (y : Nat) : MethodName := match y with
  | 0 => ⟨"java/lang/String", "charAt", "(I)C"⟩
  | 1 => ⟨"java/lang/String", "indexOf", "(I)I"⟩
  | 2 => ⟨"java/lang/String", "indexOf", "(II)I"⟩
  | 3 => ⟨"java/lang/String", "coder", "()B"⟩
  | 4 => ⟨"java/lang/String", "isLatin1", "()Z"⟩
  | 5 => ⟨"java/lang/String", "checkIndex", "(II)V"⟩
  | 6 => ⟨"java/lang/StringLatin1", "charAt", "([BI)C"⟩
  | 7 => ⟨"java/lang/StringLatin1", "canEncode", "(I)Z"⟩
  | 8 => ⟨"java/lang/StringLatin1", "indexOf", "([BIII)I"⟩
  | 9 => ⟨"java/lang/StringLatin1", "indexOfChar", "([BIII)I"⟩
  | 10 => ⟨"jdk/internal/util/Preconditions", "checkIndex", "(IILjava/util/function/BiFunction;)I"⟩
  | 11 => ⟨"LostSevensLaw", "law", "([I)Z"⟩
  | _ => ⟨"", "", ""⟩
def mk_nm (y : Nat) : MethodName := match y / 16 with
  | 0 => mk_nm0 (y % 16)
  | 1 => mk_nm1 (y % 16)
  | 2 => mk_nm2 (y % 16)
  | 3 => mk_nm3 (y % 16)
  | 4 => mk_nm4 (y % 16)
  | 5 => mk_nm5 (y % 16)
  | 6 => mk_nm6 (y % 16)
  | 7 => mk_nm7 (y % 16)
  | 8 => mk_nm8 (y % 16)
  | 9 => mk_nm9 (y % 16)
  | 10 => mk_nm10 (y % 16)
  | 11 => mk_nm11 (y % 16)
  | 12 => mk_nm12 (y % 16)
  | 13 => mk_nm13 (y % 16)
  | _ => ⟨"", "", ""⟩
def mk_cd0 (y : Nat) : ByteArray × Nat × Option FieldType := match y with
  | 0 => (prog_2_method_1_code, 1, (none : Option FieldType))
  | 1 => (prog_2_method_2_code, 6, (some .int))
  | 2 => (prog_2_method_3_code, 8, (none : Option FieldType))
  | 3 => (prog_2_method_4_code, 3, (none : Option FieldType))
  | 4 => (prog_2_method_5_code, 6, (some .int))
  | 5 => (prog_2_method_6_code, 6, (some .boolean))
  | 6 => (prog_2_method_7_code, 1, (some .boolean))
  | 7 => (prog_2_method_8_code, 3, (some .int))
  | 8 => (prog_3_method_1_code, 2, (none : Option FieldType))
  | 9 => (prog_3_method_2_code, 6, (some .int))
  | 10 => (prog_3_method_3_code, 12, (some .boolean))
  | 11 => (prog_3_method_4_code, 5, (none : Option FieldType))
  | 12 => (prog_3_method_5_code, 9, (some .long))
  | 13 => (prog_3_method_6_code, 5, (some .boolean))
  | 14 => (prog_4_method_1_code, 1, (none : Option FieldType))
  | 15 => (prog_4_method_2_code, 2, (some .int))
  | _ => (code, 0, none)
def mk_cd1 (y : Nat) : ByteArray × Nat × Option FieldType := match y with
  | 0 => (prog_4_method_3_code, 2, (some .int))
  | 1 => (prog_4_method_4_code, 2, (none : Option FieldType))
  | 2 => (prog_5_method_1_code, 1, (none : Option FieldType))
  | 3 => (prog_5_method_2_code, 1, (none : Option FieldType))
  | 4 => (prog_5_method_3_code, 2, (none : Option FieldType))
  | 5 => (prog_5_method_4_code, 3, (some .int))
  | 6 => (prog_5_method_5_code, 2, (none : Option FieldType))
  | 7 => (prog_5_method_6_code, 3, (some .boolean))
  | 8 => (prog_5_method_7_code, 4, (some .long))
  | 9 => (prog_5_method_8_code, 3, (some .int))
  | 10 => (prog_5_method_9_code, 6, (some .int))
  | 11 => (prog_6_method_1_code, 2, (none : Option FieldType))
  | 12 => (prog_6_method_2_code, 1, (none : Option FieldType))
  | 13 => (prog_6_method_3_code, 3, (some .boolean))
  | 14 => (prog_6_method_4_code, 3, (some (.object "LostSevens$Rules")))
  | 15 => (prog_6_method_5_code, 2, (some .boolean))
  | _ => (code, 0, none)
def mk_cd2 (y : Nat) : ByteArray × Nat × Option FieldType := match y with
  | 0 => (prog_6_method_6_code, 2, (some .boolean))
  | 1 => (prog_6_method_7_code, 2, (some .boolean))
  | 2 => (prog_6_method_8_code, 2, (some .boolean))
  | 3 => (prog_6_method_9_code, 3, (some .boolean))
  | 4 => (prog_6_method_10_code, 1, (some .boolean))
  | 5 => (prog_6_method_11_code, 1, (some .boolean))
  | 6 => (prog_6_method_12_code, 2, (some .boolean))
  | 7 => (prog_6_method_13_code, 1, (some .boolean))
  | 8 => (prog_6_method_14_code, 3, (some .boolean))
  | 9 => (prog_6_method_15_code, 2, (some .boolean))
  | 10 => (prog_6_method_16_code, 2, (some .boolean))
  | 11 => (prog_6_method_17_code, 3, (some .boolean))
  | 12 => (prog_6_method_18_code, 3, (none : Option FieldType))
  | 13 => (prog_6_method_19_code, 1, (some .int))
  | 14 => (prog_7_method_1_code, 2, (none : Option FieldType))
  | 15 => (prog_7_method_2_code, 1, (none : Option FieldType))
  | _ => (code, 0, none)
def mk_cd3 (y : Nat) : ByteArray × Nat × Option FieldType := match y with
  | 0 => (prog_7_method_3_code, 2, (none : Option FieldType))
  | 1 => (prog_7_method_4_code, 2, (some .boolean))
  | 2 => (prog_8_method_1_code, 3, (none : Option FieldType))
  | 3 => (prog_8_method_2_code, 4, (none : Option FieldType))
  | 4 => (prog_8_method_3_code, 8, (none : Option FieldType))
  | 5 => (prog_8_method_4_code, 9, (none : Option FieldType))
  | 6 => (prog_8_method_5_code, 3, (some .boolean))
  | 7 => (prog_9_method_1_code, 1, (none : Option FieldType))
  | 8 => (prog_9_method_2_code, 1, (none : Option FieldType))
  | 9 => (prog_9_method_3_code, 2, (none : Option FieldType))
  | 10 => (prog_9_method_4_code, 3, (none : Option FieldType))
  | 11 => (prog_9_method_5_code, 3, (none : Option FieldType))
  | 12 => (prog_9_method_6_code, 2, (none : Option FieldType))
  | 13 => (prog_10_method_1_code, 2, (none : Option FieldType))
  | 14 => (prog_10_method_2_code, 2, (none : Option FieldType))
  | 15 => (prog_10_method_3_code, 4, (none : Option FieldType))
  | _ => (code, 0, none)
def mk_cd4 (y : Nat) : ByteArray × Nat × Option FieldType := match y with
  | 0 => (prog_10_method_4_code, 7, (none : Option FieldType))
  | 1 => (prog_10_method_5_code, 1, (some .boolean))
  | 2 => (prog_10_method_6_code, 6, (none : Option FieldType))
  | 3 => (prog_10_method_7_code, 4, (none : Option FieldType))
  | 4 => (prog_10_method_8_code, 7, (some .int))
  | 5 => (prog_10_method_9_code, 3, (some .int))
  | 6 => (prog_10_method_10_code, 2, (none : Option FieldType))
  | 7 => (prog_11_method_1_code, 1, (none : Option FieldType))
  | 8 => (prog_11_method_2_code, 3, (none : Option FieldType))
  | 9 => (prog_11_method_3_code, 1, (none : Option FieldType))
  | 10 => (prog_11_method_4_code, 2, (none : Option FieldType))
  | 11 => (prog_11_method_5_code, 3, (some .int))
  | 12 => (prog_11_method_6_code, 3, (some .int))
  | 13 => (prog_11_method_7_code, 3, (some .int))
  | 14 => (prog_11_method_8_code, 3, (some .int))
  | 15 => (prog_11_method_9_code, 2, (some .int))
  | _ => (code, 0, none)
def mk_cd5 (y : Nat) : ByteArray × Nat × Option FieldType := match y with
  | 0 => (prog_11_method_10_code, 4, (some .boolean))
  | 1 => (prog_11_method_11_code, 1, (some .boolean))
  | 2 => (prog_11_method_12_code, 1, (some .boolean))
  | 3 => (prog_11_method_13_code, 1, (some .boolean))
  | 4 => (prog_12_method_1_code, 2, (none : Option FieldType))
  | 5 => (prog_12_method_2_code, 2, (some .boolean))
  | 6 => (prog_12_method_3_code, 1, (some .int))
  | 7 => (prog_12_method_4_code, 5, (none : Option FieldType))
  | 8 => (prog_12_method_5_code, 5, (none : Option FieldType))
  | 9 => (prog_12_method_6_code, 5, (some .boolean))
  | 10 => (prog_12_method_7_code, 3, (none : Option FieldType))
  | 11 => (prog_1_method_1_code, 1, (none : Option FieldType))
  | 12 => (prog_1_method_2_code, 3, (some .int))
  | 13 => (prog_1_method_3_code, 9, (some .int))
  | 14 => (prog_1_method_4_code, 5, (some .boolean))
  | 15 => (prog_1_method_5_code, 4, (some .int))
  | _ => (code, 0, none)
def mk_cd6 (y : Nat) : ByteArray × Nat × Option FieldType := match y with
  | 0 => (prog_1_method_6_code, 4, (some .int))
  | 1 => (prog_1_method_7_code, 3, (some .int))
  | 2 => (prog_1_method_8_code, 6, (some .int))
  | 3 => (prog_1_method_9_code, 2, (some .boolean))
  | 4 => (prog_1_method_10_code, 3, (some .int))
  | 5 => (prog_1_method_11_code, 2, (some .int))
  | 6 => (prog_1_method_12_code, 9, (some .int))
  | 7 => (prog_1_method_13_code, 4, (some .int))
  | 8 => (prog_1_method_14_code, 4, (some .int))
  | 9 => (prog_1_method_15_code, 3, (some .int))
  | 10 => (prog_1_method_16_code, 1, (some .long))
  | 11 => (prog_1_method_17_code, 4, (some .int))
  | 12 => (prog_1_method_18_code, 5, (some .int))
  | 13 => (prog_1_method_19_code, 4, (some .int))
  | 14 => (prog_1_method_20_code, 7, (some .int))
  | 15 => (prog_1_method_21_code, 4, (some .int))
  | _ => (code, 0, none)
def mk_cd7 (y : Nat) : ByteArray × Nat × Option FieldType := match y with
  | 0 => (prog_1_method_22_code, 3, (some .int))
  | 1 => (prog_1_method_23_code, 2, (some .int))
  | 2 => (prog_1_method_24_code, 6, (some .int))
  | 3 => (prog_1_method_25_code, 1, (some .boolean))
  | 4 => (prog_1_method_26_code, 2, (some .boolean))
  | 5 => (prog_1_method_27_code, 2, (some .int))
  | 6 => (prog_1_method_28_code, 1, (some .boolean))
  | 7 => (prog_1_method_29_code, 1, (some .boolean))
  | 8 => (prog_1_method_30_code, 1, (some .boolean))
  | 9 => (prog_1_method_31_code, 1, (some .boolean))
  | 10 => (prog_1_method_32_code, 1, (some .boolean))
  | 11 => (prog_1_method_33_code, 1, (some .boolean))
  | 12 => (prog_1_method_34_code, 2, (some .boolean))
  | 13 => (prog_1_method_35_code, 2, (some (.object "LostSevens$Message")))
  | 14 => (prog_1_method_36_code, 2, (some .int))
  | 15 => (prog_1_method_37_code, 2, (some .int))
  | _ => (code, 0, none)
def mk_cd8 (y : Nat) : ByteArray × Nat × Option FieldType := match y with
  | 0 => (prog_1_method_38_code, 5, (some .int))
  | 1 => (prog_1_method_39_code, 7, (none : Option FieldType))
  | 2 => (prog_14_method_1_code, 1, (none : Option FieldType))
  | 3 => (prog_14_method_2_code, 3, (some .boolean))
  | 4 => (prog_14_method_3_code, 2, (some .boolean))
  | 5 => (prog_14_method_4_code, 3, (some .int))
  | 6 => (prog_14_method_5_code, 4, (none : Option FieldType))
  | 7 => (prog_14_method_6_code, 1, (some .boolean))
  | 8 => (prog_14_method_7_code, 3, (some .int))
  | 9 => (prog_14_method_8_code, 2, (some .int))
  | 10 => (prog_14_method_9_code, 9, (some .int))
  | 11 => (prog_14_method_10_code, 5, (some .boolean))
  | 12 => (prog_14_method_11_code, 3, (some .int))
  | 13 => (prog_14_method_12_code, 3, (some .int))
  | 14 => (prog_14_method_13_code, 4, (some .int))
  | 15 => (prog_14_method_14_code, 8, (some .int))
  | _ => (code, 0, none)
def mk_cd9 (y : Nat) : ByteArray × Nat × Option FieldType := match y with
  | 0 => (prog_14_method_15_code, 2, (some .boolean))
  | 1 => (prog_14_method_16_code, 2, (some .int))
  | 2 => (prog_14_method_17_code, 1, (some .boolean))
  | 3 => (prog_14_method_18_code, 1, (some .boolean))
  | 4 => (prog_14_method_19_code, 4, (some .boolean))
  | 5 => (prog_14_method_20_code, 1, (some .int))
  | 6 => (prog_14_method_21_code, 1, (some .int))
  | 7 => (prog_14_method_22_code, 3, (none : Option FieldType))
  | 8 => (prog_14_method_23_code, 2, (some .boolean))
  | 9 => (prog_14_method_24_code, 2, (some .boolean))
  | 10 => (prog_14_method_25_code, 3, (none : Option FieldType))
  | 11 => (prog_14_method_26_code, 1, (some .boolean))
  | 12 => (prog_14_method_27_code, 2, (some .boolean))
  | 13 => (prog_14_method_28_code, 3, (some .boolean))
  | 14 => (prog_14_method_29_code, 2, (some .boolean))
  | 15 => (prog_14_method_30_code, 1, (some .boolean))
  | _ => (code, 0, none)
def mk_cd10 (y : Nat) : ByteArray × Nat × Option FieldType := match y with
  | 0 => (prog_14_method_31_code, 1, (some .boolean))
  | 1 => (prog_14_method_32_code, 2, (some .boolean))
  | 2 => (prog_14_method_33_code, 3, (some .boolean))
  | 3 => (prog_14_method_34_code, 5, (some .int))
  | 4 => (prog_14_method_35_code, 2, (some .int))
  | 5 => (prog_14_method_36_code, 3, (some .int))
  | 6 => (prog_14_method_37_code, 8, (some .int))
  | 7 => (prog_14_method_38_code, 2, (none : Option FieldType))
  | 8 => (prog_14_method_39_code, 5, (some .int))
  | 9 => (prog_14_method_40_code, 1, (some .int))
  | 10 => (prog_14_method_41_code, 6, (none : Option FieldType))
  | 11 => (prog_14_method_42_code, 5, (none : Option FieldType))
  | 12 => (prog_14_method_43_code, 7, (some .int))
  | 13 => (prog_14_method_44_code, 2, (none : Option FieldType))
  | 14 => (prog_14_method_45_code, 3, (some .int))
  | 15 => (prog_14_method_46_code, 4, (none : Option FieldType))
  | _ => (code, 0, none)
def mk_cd11 (y : Nat) : ByteArray × Nat × Option FieldType := match y with
  | 0 => (prog_14_method_47_code, 4, (some .boolean))
  | 1 => (prog_14_method_48_code, 5, (some .int))
  | 2 => (prog_14_method_49_code, 11, (some .int))
  | 3 => (prog_14_method_50_code, 3, (some .int))
  | 4 => (prog_14_method_51_code, 3, (some .int))
  | 5 => (prog_14_method_52_code, 3, (some .int))
  | 6 => (prog_14_method_53_code, 1, (some .long))
  | 7 => (prog_14_method_54_code, 3, (some .boolean))
  | 8 => (prog_14_method_55_code, 4, (some .int))
  | 9 => (prog_14_method_56_code, 5, (none : Option FieldType))
  | 10 => (prog_14_method_57_code, 1, (some .int))
  | 11 => (prog_14_method_58_code, 3, (some .boolean))
  | 12 => (prog_14_method_59_code, 4, (some .int))
  | 13 => (prog_14_method_60_code, 10, (some .int))
  | 14 => (prog_14_method_61_code, 5, (some .boolean))
  | 15 => (prog_14_method_62_code, 9, (some .int))
  | _ => (code, 0, none)
def mk_cd12 (y : Nat) : ByteArray × Nat × Option FieldType := match y with
  | 0 => (prog_14_method_63_code, 5, (some .boolean))
  | 1 => (prog_14_method_64_code, 6, (none : Option FieldType))
  | 2 => (prog_14_method_65_code, 6, (some .int))
  | 3 => (prog_14_method_66_code, 3, (none : Option FieldType))
  | 4 => (prog_14_method_67_code, 3, (none : Option FieldType))
  | 5 => (prog_14_method_68_code, 9, (none : Option FieldType))
  | 6 => (prog_14_method_69_code, 4, (some .int))
  | 7 => (prog_14_method_70_code, 3, (some .int))
  | 8 => (prog_14_method_71_code, 3, (none : Option FieldType))
  | 9 => (prog_14_method_72_code, 4, (some .int))
  | 10 => (prog_14_method_73_code, 7, (some .boolean))
  | 11 => (prog_14_method_74_code, 9, (some .int))
  | 12 => (prog_14_method_75_code, 3, (some .boolean))
  | 13 => (prog_14_method_76_code, 2, (some .int))
  | 14 => (prog_16_method_49_code, 1, (some .int))
  | 15 => (prog_18_method_54_code, 1, (some .int))
  | _ => (code, 0, none)
def mk_cd13 (y : Nat) : ByteArray × Nat × Option FieldType := match y with
  | 0 => (prog_18_method_56_code, 2, (some .char))
  | 1 => (prog_18_method_79_code, 2, (some .int))
  | 2 => (prog_18_method_80_code, 3, (some .int))
  | 3 => (prog_18_method_152_code, 1, (some .byte))
  | 4 => (prog_18_method_154_code, 1, (some .boolean))
  | 5 => (prog_18_method_155_code, 2, (none : Option FieldType))
  | 6 => (prog_19_method_2_code, 2, (some .char))
  | 7 => (prog_19_method_4_code, 1, (some .boolean))
  | 8 => (prog_19_method_22_code, 4, (some .int))
  | 9 => (prog_19_method_23_code, 6, (some .int))
  | 10 => (prog_22_method_11_code, 3, (some .int))
  | 11 => (code, 4, (none : Option FieldType))
  | _ => (code, 0, none)
def mk_cd (y : Nat) : ByteArray × Nat × Option FieldType := match y / 16 with
  | 0 => mk_cd0 (y % 16)
  | 1 => mk_cd1 (y % 16)
  | 2 => mk_cd2 (y % 16)
  | 3 => mk_cd3 (y % 16)
  | 4 => mk_cd4 (y % 16)
  | 5 => mk_cd5 (y % 16)
  | 6 => mk_cd6 (y % 16)
  | 7 => mk_cd7 (y % 16)
  | 8 => mk_cd8 (y % 16)
  | 9 => mk_cd9 (y % 16)
  | 10 => mk_cd10 (y % 16)
  | 11 => mk_cd11 (y % 16)
  | 12 => mk_cd12 (y % 16)
  | 13 => mk_cd13 (y % 16)
  | _ => (code, 0, none)
def mk_cw (y : Nat) : Cond := .code (mk_nm y) (mk_cd y).1 (mk_cd y).2.1 (mk_cd y).2.2
def mk_ws (y : Nat) : List Cond := mk_cw y :: mk_wt
/-- what every callee needs, by the tables -/
def mk_ok (y n : Nat) : Prop := mk_cw y ∈ mk_wt ∧ plainName (mk_nm y).cls = true ∧ Cond.initialized (mk_nm y).cls ∈ mk_wt ∧ ((mk_nm y).cls ≠ "java/lang/invoke/MethodHandle" ∧ (mk_nm y).cls ≠ "java/lang/invoke/VarHandle" ∧ (parseMethodDescriptor (mk_nm y).desc).map (fun d => d.parameters.length) = some n) ∧ (mk_cd y).2.1 ≤ 40 ∧ (mj_pr y).1 = (mk_cd y).2.1
set_option maxRecDepth 100000 in
theorem ok_Clerk_init : mk_ok n_Clerk_init 0 := ⟨mk_wt_in 334 rfl (by decide +kernel), by decide +kernel, mk_wt_in 9 rfl (by decide +kernel), ⟨by decide +kernel, by decide +kernel, by decide +kernel⟩, by decide +kernel, rfl⟩
set_option maxRecDepth 100000 in
theorem ok_Clerk_carry : mk_ok n_Clerk_carry 5 := ⟨mk_wt_in 843 rfl (by decide +kernel), by decide +kernel, mk_wt_in 9 rfl (by decide +kernel), ⟨by decide +kernel, by decide +kernel, by decide +kernel⟩, by decide +kernel, rfl⟩
set_option maxRecDepth 100000 in
theorem ok_Clerk_translate : mk_ok n_Clerk_translate 4 := ⟨mk_wt_in 847 rfl (by decide +kernel), by decide +kernel, mk_wt_in 9 rfl (by decide +kernel), ⟨by decide +kernel, by decide +kernel, by decide +kernel⟩, by decide +kernel, rfl⟩
set_option maxRecDepth 100000 in
theorem ok_Clerk_begin : mk_ok n_Clerk_begin 2 := ⟨mk_wt_in 852 rfl (by decide +kernel), by decide +kernel, mk_wt_in 9 rfl (by decide +kernel), ⟨by decide +kernel, by decide +kernel, by decide +kernel⟩, by decide +kernel, rfl⟩
set_option maxRecDepth 100000 in
theorem ok_Clerk_ruleAt : mk_ok n_Clerk_ruleAt 3 := ⟨mk_wt_in 856 rfl (by decide +kernel), by decide +kernel, mk_wt_in 9 rfl (by decide +kernel), ⟨by decide +kernel, by decide +kernel, by decide +kernel⟩, by decide +kernel, rfl⟩
set_option maxRecDepth 100000 in
theorem ok_Clerk_holds : mk_ok n_Clerk_holds 2 := ⟨mk_wt_in 861 rfl (by decide +kernel), by decide +kernel, mk_wt_in 9 rfl (by decide +kernel), ⟨by decide +kernel, by decide +kernel, by decide +kernel⟩, by decide +kernel, rfl⟩
set_option maxRecDepth 100000 in
theorem ok_Clerk_isOperand : mk_ok n_Clerk_isOperand 1 := ⟨mk_wt_in 864 rfl (by decide +kernel), by decide +kernel, mk_wt_in 9 rfl (by decide +kernel), ⟨by decide +kernel, by decide +kernel, by decide +kernel⟩, by decide +kernel, rfl⟩
set_option maxRecDepth 100000 in
theorem ok_Clerk_join : mk_ok n_Clerk_join 3 := ⟨mk_wt_in 867 rfl (by decide +kernel), by decide +kernel, mk_wt_in 9 rfl (by decide +kernel), ⟨by decide +kernel, by decide +kernel, by decide +kernel⟩, by decide +kernel, rfl⟩
set_option maxRecDepth 100000 in
theorem ok_Coder_init : mk_ok n_Coder_init 1 := ⟨mk_wt_in 390 rfl (by decide +kernel), by decide +kernel, mk_wt_in 11 rfl (by decide +kernel), ⟨by decide +kernel, by decide +kernel, by decide +kernel⟩, by decide +kernel, rfl⟩
set_option maxRecDepth 100000 in
theorem ok_Coder_findLength : mk_ok n_Coder_findLength 3 := ⟨mk_wt_in 979 rfl (by decide +kernel), by decide +kernel, mk_wt_in 11 rfl (by decide +kernel), ⟨by decide +kernel, by decide +kernel, by decide +kernel⟩, by decide +kernel, rfl⟩
set_option maxRecDepth 100000 in
theorem ok_Coder_takes : mk_ok n_Coder_takes 5 := ⟨mk_wt_in 983 rfl (by decide +kernel), by decide +kernel, mk_wt_in 11 rfl (by decide +kernel), ⟨by decide +kernel, by decide +kernel, by decide +kernel⟩, by decide +kernel, rfl⟩
set_option maxRecDepth 100000 in
theorem ok_Coder_spell : mk_ok n_Coder_spell 2 := ⟨mk_wt_in 987 rfl (by decide +kernel), by decide +kernel, mk_wt_in 11 rfl (by decide +kernel), ⟨by decide +kernel, by decide +kernel, by decide +kernel⟩, by decide +kernel, rfl⟩
set_option maxRecDepth 100000 in
theorem ok_Coder_whatComes : mk_ok n_Coder_whatComes 3 := ⟨mk_wt_in 991 rfl (by decide +kernel), by decide +kernel, mk_wt_in 11 rfl (by decide +kernel), ⟨by decide +kernel, by decide +kernel, by decide +kernel⟩, by decide +kernel, rfl⟩
set_option maxRecDepth 100000 in
theorem ok_Coder_isNew : mk_ok n_Coder_isNew 2 := ⟨mk_wt_in 998 rfl (by decide +kernel), by decide +kernel, mk_wt_in 11 rfl (by decide +kernel), ⟨by decide +kernel, by decide +kernel, by decide +kernel⟩, by decide +kernel, rfl⟩
set_option maxRecDepth 100000 in
theorem ok_Line_init : mk_ok n_Line_init 0 := ⟨mk_wt_in 67 rfl (by decide +kernel), by decide +kernel, mk_wt_in 4 rfl (by decide +kernel), ⟨by decide +kernel, by decide +kernel, by decide +kernel⟩, by decide +kernel, rfl⟩
set_option maxRecDepth 100000 in
theorem ok_Line_otherEnd : mk_ok n_Line_otherEnd 1 := ⟨mk_wt_in 821 rfl (by decide +kernel), by decide +kernel, mk_wt_in 4 rfl (by decide +kernel), ⟨by decide +kernel, by decide +kernel, by decide +kernel⟩, by decide +kernel, rfl⟩
set_option maxRecDepth 100000 in
theorem ok_Line_lostDigits : mk_ok n_Line_lostDigits 1 := ⟨mk_wt_in 872 rfl (by decide +kernel), by decide +kernel, mk_wt_in 4 rfl (by decide +kernel), ⟨by decide +kernel, by decide +kernel, by decide +kernel⟩, by decide +kernel, rfl⟩
set_option maxRecDepth 100000 in
theorem ok_Line_copyFrom : mk_ok n_Line_copyFrom 1 := ⟨mk_wt_in 1077 rfl (by decide +kernel), by decide +kernel, mk_wt_in 4 rfl (by decide +kernel), ⟨by decide +kernel, by decide +kernel, by decide +kernel⟩, by decide +kernel, rfl⟩
set_option maxRecDepth 100000 in
theorem ok_Message_init : mk_ok n_Message_init 0 := ⟨mk_wt_in 44 rfl (by decide +kernel), by decide +kernel, mk_wt_in 3 rfl (by decide +kernel), ⟨by decide +kernel, by decide +kernel, by decide +kernel⟩, by decide +kernel, rfl⟩
set_option maxRecDepth 100000 in
theorem ok_Message_clear : mk_ok n_Message_clear 0 := ⟨mk_wt_in 540 rfl (by decide +kernel), by decide +kernel, mk_wt_in 3 rfl (by decide +kernel), ⟨by decide +kernel, by decide +kernel, by decide +kernel⟩, by decide +kernel, rfl⟩
set_option maxRecDepth 100000 in
theorem ok_Message_append : mk_ok n_Message_append 1 := ⟨mk_wt_in 532 rfl (by decide +kernel), by decide +kernel, mk_wt_in 3 rfl (by decide +kernel), ⟨by decide +kernel, by decide +kernel, by decide +kernel⟩, by decide +kernel, rfl⟩
set_option maxRecDepth 100000 in
theorem ok_Message_digitAt : mk_ok n_Message_digitAt 2 := ⟨mk_wt_in 551 rfl (by decide +kernel), by decide +kernel, mk_wt_in 3 rfl (by decide +kernel), ⟨by decide +kernel, by decide +kernel, by decide +kernel⟩, by decide +kernel, rfl⟩
set_option maxRecDepth 100000 in
theorem ok_Message_copyFrom : mk_ok n_Message_copyFrom 1 := ⟨mk_wt_in 829 rfl (by decide +kernel), by decide +kernel, mk_wt_in 3 rfl (by decide +kernel), ⟨by decide +kernel, by decide +kernel, by decide +kernel⟩, by decide +kernel, rfl⟩
set_option maxRecDepth 100000 in
theorem ok_Message_sameAs : mk_ok n_Message_sameAs 1 := ⟨mk_wt_in 941 rfl (by decide +kernel), by decide +kernel, mk_wt_in 3 rfl (by decide +kernel), ⟨by decide +kernel, by decide +kernel, by decide +kernel⟩, by decide +kernel, rfl⟩
set_option maxRecDepth 100000 in
theorem ok_Message_value : mk_ok n_Message_value 0 := ⟨mk_wt_in 886 rfl (by decide +kernel), by decide +kernel, mk_wt_in 3 rfl (by decide +kernel), ⟨by decide +kernel, by decide +kernel, by decide +kernel⟩, by decide +kernel, rfl⟩
set_option maxRecDepth 100000 in
theorem ok_Message_digitSet : mk_ok n_Message_digitSet 0 := ⟨mk_wt_in 1042 rfl (by decide +kernel), by decide +kernel, mk_wt_in 3 rfl (by decide +kernel), ⟨by decide +kernel, by decide +kernel, by decide +kernel⟩, by decide +kernel, rfl⟩
set_option maxRecDepth 100000 in
theorem ok_Message_keepFrom : mk_ok n_Message_keepFrom 2 := ⟨mk_wt_in 876 rfl (by decide +kernel), by decide +kernel, mk_wt_in 3 rfl (by decide +kernel), ⟨by decide +kernel, by decide +kernel, by decide +kernel⟩, by decide +kernel, rfl⟩
set_option maxRecDepth 100000 in
theorem ok_Parser_init : mk_ok n_Parser_init 1 := ⟨mk_wt_in 296 rfl (by decide +kernel), by decide +kernel, mk_wt_in 8 rfl (by decide +kernel), ⟨by decide +kernel, by decide +kernel, by decide +kernel⟩, by decide +kernel, rfl⟩
set_option maxRecDepth 100000 in
theorem ok_Parser_clearFault : mk_ok n_Parser_clearFault 0 := ⟨mk_wt_in 571 rfl (by decide +kernel), by decide +kernel, mk_wt_in 8 rfl (by decide +kernel), ⟨by decide +kernel, by decide +kernel, by decide +kernel⟩, by decide +kernel, rfl⟩
set_option maxRecDepth 100000 in
theorem ok_Parser_readTape : mk_ok n_Parser_readTape 0 := ⟨mk_wt_in 575 rfl (by decide +kernel), by decide +kernel, mk_wt_in 8 rfl (by decide +kernel), ⟨by decide +kernel, by decide +kernel, by decide +kernel⟩, by decide +kernel, rfl⟩
set_option maxRecDepth 100000 in
theorem ok_Parser_exchange : mk_ok n_Parser_exchange 1 := ⟨mk_wt_in 804 rfl (by decide +kernel), by decide +kernel, mk_wt_in 8 rfl (by decide +kernel), ⟨by decide +kernel, by decide +kernel, by decide +kernel⟩, by decide +kernel, rfl⟩
set_option maxRecDepth 100000 in
theorem ok_Parser_refuse : mk_ok n_Parser_refuse 1 := ⟨mk_wt_in 728 rfl (by decide +kernel), by decide +kernel, mk_wt_in 8 rfl (by decide +kernel), ⟨by decide +kernel, by decide +kernel, by decide +kernel⟩, by decide +kernel, rfl⟩
set_option maxRecDepth 100000 in
theorem ok_Parser_pass : mk_ok n_Parser_pass 1 := ⟨mk_wt_in 741 rfl (by decide +kernel), by decide +kernel, mk_wt_in 8 rfl (by decide +kernel), ⟨by decide +kernel, by decide +kernel, by decide +kernel⟩, by decide +kernel, rfl⟩
set_option maxRecDepth 100000 in
theorem ok_Parser_passRule : mk_ok n_Parser_passRule 0 := ⟨mk_wt_in 724 rfl (by decide +kernel), by decide +kernel, mk_wt_in 8 rfl (by decide +kernel), ⟨by decide +kernel, by decide +kernel, by decide +kernel⟩, by decide +kernel, rfl⟩
set_option maxRecDepth 100000 in
theorem ok_Parser_passReplacement : mk_ok n_Parser_passReplacement 0 := ⟨mk_wt_in 745 rfl (by decide +kernel), by decide +kernel, mk_wt_in 8 rfl (by decide +kernel), ⟨by decide +kernel, by decide +kernel, by decide +kernel⟩, by decide +kernel, rfl⟩
set_option maxRecDepth 100000 in
theorem ok_Parser_passCondition : mk_ok n_Parser_passCondition 0 := ⟨mk_wt_in 757 rfl (by decide +kernel), by decide +kernel, mk_wt_in 8 rfl (by decide +kernel), ⟨by decide +kernel, by decide +kernel, by decide +kernel⟩, by decide +kernel, rfl⟩
set_option maxRecDepth 100000 in
theorem ok_Parser_takeToken : mk_ok n_Parser_takeToken 0 := ⟨mk_wt_in 761 rfl (by decide +kernel), by decide +kernel, mk_wt_in 8 rfl (by decide +kernel), ⟨by decide +kernel, by decide +kernel, by decide +kernel⟩, by decide +kernel, rfl⟩
set_option maxRecDepth 100000 in
theorem ok_Parser_takeClaim : mk_ok n_Parser_takeClaim 0 := ⟨mk_wt_in 765 rfl (by decide +kernel), by decide +kernel, mk_wt_in 8 rfl (by decide +kernel), ⟨by decide +kernel, by decide +kernel, by decide +kernel⟩, by decide +kernel, rfl⟩
set_option maxRecDepth 100000 in
theorem ok_Parser_takeOperand : mk_ok n_Parser_takeOperand 0 := ⟨mk_wt_in 769 rfl (by decide +kernel), by decide +kernel, mk_wt_in 8 rfl (by decide +kernel), ⟨by decide +kernel, by decide +kernel, by decide +kernel⟩, by decide +kernel, rfl⟩
set_option maxRecDepth 100000 in
theorem ok_Parser_takeDivisor : mk_ok n_Parser_takeDivisor 0 := ⟨mk_wt_in 781 rfl (by decide +kernel), by decide +kernel, mk_wt_in 8 rfl (by decide +kernel), ⟨by decide +kernel, by decide +kernel, by decide +kernel⟩, by decide +kernel, rfl⟩
set_option maxRecDepth 100000 in
theorem ok_Parser_takeJoint : mk_ok n_Parser_takeJoint 0 := ⟨mk_wt_in 785 rfl (by decide +kernel), by decide +kernel, mk_wt_in 8 rfl (by decide +kernel), ⟨by decide +kernel, by decide +kernel, by decide +kernel⟩, by decide +kernel, rfl⟩
set_option maxRecDepth 100000 in
theorem ok_Parser_canJoin : mk_ok n_Parser_canJoin 1 := ⟨mk_wt_in 792 rfl (by decide +kernel), by decide +kernel, mk_wt_in 8 rfl (by decide +kernel), ⟨by decide +kernel, by decide +kernel, by decide +kernel⟩, by decide +kernel, rfl⟩
set_option maxRecDepth 100000 in
theorem ok_Parser_takeEnd : mk_ok n_Parser_takeEnd 0 := ⟨mk_wt_in 800 rfl (by decide +kernel), by decide +kernel, mk_wt_in 8 rfl (by decide +kernel), ⟨by decide +kernel, by decide +kernel, by decide +kernel⟩, by decide +kernel, rfl⟩
set_option maxRecDepth 100000 in
theorem ok_Parser_await : mk_ok n_Parser_await 2 := ⟨mk_wt_in 777 rfl (by decide +kernel), by decide +kernel, mk_wt_in 8 rfl (by decide +kernel), ⟨by decide +kernel, by decide +kernel, by decide +kernel⟩, by decide +kernel, rfl⟩
set_option maxRecDepth 100000 in
theorem ok_Parser_settle : mk_ok n_Parser_settle 1 := ⟨mk_wt_in 796 rfl (by decide +kernel), by decide +kernel, mk_wt_in 8 rfl (by decide +kernel), ⟨by decide +kernel, by decide +kernel, by decide +kernel⟩, by decide +kernel, rfl⟩
set_option maxRecDepth 100000 in
theorem ok_Parser_strengthOf : mk_ok n_Parser_strengthOf 1 := ⟨mk_wt_in 788 rfl (by decide +kernel), by decide +kernel, mk_wt_in 8 rfl (by decide +kernel), ⟨by decide +kernel, by decide +kernel, by decide +kernel⟩, by decide +kernel, rfl⟩
set_option maxRecDepth 100000 in
theorem ok_Past_init : mk_ok n_Past_init 0 := ⟨mk_wt_in 235 rfl (by decide +kernel), by decide +kernel, mk_wt_in 6 rfl (by decide +kernel), ⟨by decide +kernel, by decide +kernel, by decide +kernel⟩, by decide +kernel, rfl⟩
set_option maxRecDepth 100000 in
theorem ok_Past_forget : mk_ok n_Past_forget 0 := ⟨mk_wt_in 503 rfl (by decide +kernel), by decide +kernel, mk_wt_in 6 rfl (by decide +kernel), ⟨by decide +kernel, by decide +kernel, by decide +kernel⟩, by decide +kernel, rfl⟩
set_option maxRecDepth 100000 in
theorem ok_Past_remember : mk_ok n_Past_remember 1 := ⟨mk_wt_in 825 rfl (by decide +kernel), by decide +kernel, mk_wt_in 6 rfl (by decide +kernel), ⟨by decide +kernel, by decide +kernel, by decide +kernel⟩, by decide +kernel, rfl⟩
set_option maxRecDepth 100000 in
theorem ok_Past_goBack : mk_ok n_Past_goBack 1 := ⟨mk_wt_in 1065 rfl (by decide +kernel), by decide +kernel, mk_wt_in 6 rfl (by decide +kernel), ⟨by decide +kernel, by decide +kernel, by decide +kernel⟩, by decide +kernel, rfl⟩
set_option maxRecDepth 100000 in
theorem ok_Router_init : mk_ok n_Router_init 1 := ⟨mk_wt_in 415 rfl (by decide +kernel), by decide +kernel, mk_wt_in 12 rfl (by decide +kernel), ⟨by decide +kernel, by decide +kernel, by decide +kernel⟩, by decide +kernel, rfl⟩
set_option maxRecDepth 100000 in
theorem ok_Router_search : mk_ok n_Router_search 3 := ⟨mk_wt_in 1006 rfl (by decide +kernel), by decide +kernel, mk_wt_in 12 rfl (by decide +kernel), ⟨by decide +kernel, by decide +kernel, by decide +kernel⟩, by decide +kernel, rfl⟩
set_option maxRecDepth 100000 in
theorem ok_Router_goOn : mk_ok n_Router_goOn 5 := ⟨mk_wt_in 1011 rfl (by decide +kernel), by decide +kernel, mk_wt_in 12 rfl (by decide +kernel), ⟨by decide +kernel, by decide +kernel, by decide +kernel⟩, by decide +kernel, rfl⟩
set_option maxRecDepth 100000 in
theorem ok_Router_goTo : mk_ok n_Router_goTo 5 := ⟨mk_wt_in 1016 rfl (by decide +kernel), by decide +kernel, mk_wt_in 12 rfl (by decide +kernel), ⟨by decide +kernel, by decide +kernel, by decide +kernel⟩, by decide +kernel, rfl⟩
set_option maxRecDepth 100000 in
theorem ok_Router_isBetter : mk_ok n_Router_isBetter 2 := ⟨mk_wt_in 1023 rfl (by decide +kernel), by decide +kernel, mk_wt_in 12 rfl (by decide +kernel), ⟨by decide +kernel, by decide +kernel, by decide +kernel⟩, by decide +kernel, rfl⟩
set_option maxRecDepth 100000 in
theorem ok_Rules_init : mk_ok n_Rules_init 0 := ⟨mk_wt_in 106 rfl (by decide +kernel), by decide +kernel, mk_wt_in 5 rfl (by decide +kernel), ⟨by decide +kernel, by decide +kernel, by decide +kernel⟩, by decide +kernel, rfl⟩
set_option maxRecDepth 100000 in
theorem ok_Rules_clear : mk_ok n_Rules_clear 0 := ⟨mk_wt_in 579 rfl (by decide +kernel), by decide +kernel, mk_wt_in 5 rfl (by decide +kernel), ⟨by decide +kernel, by decide +kernel, by decide +kernel⟩, by decide +kernel, rfl⟩
set_option maxRecDepth 100000 in
theorem ok_Rules_begin : mk_ok n_Rules_begin 1 := ⟨mk_wt_in 737 rfl (by decide +kernel), by decide +kernel, mk_wt_in 5 rfl (by decide +kernel), ⟨by decide +kernel, by decide +kernel, by decide +kernel⟩, by decide +kernel, rfl⟩
set_option maxRecDepth 100000 in
theorem ok_Rules_spell : mk_ok n_Rules_spell 1 := ⟨mk_wt_in 753 rfl (by decide +kernel), by decide +kernel, mk_wt_in 5 rfl (by decide +kernel), ⟨by decide +kernel, by decide +kernel, by decide +kernel⟩, by decide +kernel, rfl⟩
set_option maxRecDepth 100000 in
theorem ok_Rules_addStep : mk_ok n_Rules_addStep 1 := ⟨mk_wt_in 773 rfl (by decide +kernel), by decide +kernel, mk_wt_in 5 rfl (by decide +kernel), ⟨by decide +kernel, by decide +kernel, by decide +kernel⟩, by decide +kernel, rfl⟩
set_option maxRecDepth 100000 in
theorem ok_Rules_copyFrom : mk_ok n_Rules_copyFrom 1 := ⟨mk_wt_in 1081 rfl (by decide +kernel), by decide +kernel, mk_wt_in 5 rfl (by decide +kernel), ⟨by decide +kernel, by decide +kernel, by decide +kernel⟩, by decide +kernel, rfl⟩
set_option maxRecDepth 100000 in
theorem ok_Seeker_init : mk_ok n_Seeker_init 1 := ⟨mk_wt_in 355 rfl (by decide +kernel), by decide +kernel, mk_wt_in 10 rfl (by decide +kernel), ⟨by decide +kernel, by decide +kernel, by decide +kernel⟩, by decide +kernel, rfl⟩
set_option maxRecDepth 100000 in
theorem ok_Seeker_wantSeen : mk_ok n_Seeker_wantSeen 1 := ⟨mk_wt_in 922 rfl (by decide +kernel), by decide +kernel, mk_wt_in 10 rfl (by decide +kernel), ⟨by decide +kernel, by decide +kernel, by decide +kernel⟩, by decide +kernel, rfl⟩
set_option maxRecDepth 100000 in
theorem ok_Seeker_wantTwin : mk_ok n_Seeker_wantTwin 3 := ⟨mk_wt_in 970 rfl (by decide +kernel), by decide +kernel, mk_wt_in 10 rfl (by decide +kernel), ⟨by decide +kernel, by decide +kernel, by decide +kernel⟩, by decide +kernel, rfl⟩
set_option maxRecDepth 100000 in
theorem ok_Seeker_seek : mk_ok n_Seeker_seek 4 := ⟨mk_wt_in 927 rfl (by decide +kernel), by decide +kernel, mk_wt_in 10 rfl (by decide +kernel), ⟨by decide +kernel, by decide +kernel, by decide +kernel⟩, by decide +kernel, rfl⟩
set_option maxRecDepth 100000 in
theorem ok_Seeker_isOver : mk_ok n_Seeker_isOver 0 := ⟨mk_wt_in 933 rfl (by decide +kernel), by decide +kernel, mk_wt_in 10 rfl (by decide +kernel), ⟨by decide +kernel, by decide +kernel, by decide +kernel⟩, by decide +kernel, rfl⟩
set_option maxRecDepth 100000 in
theorem ok_Seeker_chooseAt : mk_ok n_Seeker_chooseAt 3 := ⟨mk_wt_in 945 rfl (by decide +kernel), by decide +kernel, mk_wt_in 10 rfl (by decide +kernel), ⟨by decide +kernel, by decide +kernel, by decide +kernel⟩, by decide +kernel, rfl⟩
set_option maxRecDepth 100000 in
theorem ok_Seeker_goOnFrom : mk_ok n_Seeker_goOnFrom 3 := ⟨mk_wt_in 959 rfl (by decide +kernel), by decide +kernel, mk_wt_in 10 rfl (by decide +kernel), ⟨by decide +kernel, by decide +kernel, by decide +kernel⟩, by decide +kernel, rfl⟩
set_option maxRecDepth 100000 in
theorem ok_Seeker_follow : mk_ok n_Seeker_follow 3 := ⟨mk_wt_in 949 rfl (by decide +kernel), by decide +kernel, mk_wt_in 10 rfl (by decide +kernel), ⟨by decide +kernel, by decide +kernel, by decide +kernel⟩, by decide +kernel, rfl⟩
set_option maxRecDepth 100000 in
theorem ok_Seeker_meet : mk_ok n_Seeker_meet 2 := ⟨mk_wt_in 954 rfl (by decide +kernel), by decide +kernel, mk_wt_in 10 rfl (by decide +kernel), ⟨by decide +kernel, by decide +kernel, by decide +kernel⟩, by decide +kernel, rfl⟩
set_option maxRecDepth 100000 in
theorem ok_Seeker_judge : mk_ok n_Seeker_judge 1 := ⟨mk_wt_in 937 rfl (by decide +kernel), by decide +kernel, mk_wt_in 10 rfl (by decide +kernel), ⟨by decide +kernel, by decide +kernel, by decide +kernel⟩, by decide +kernel, rfl⟩
set_option maxRecDepth 100000 in
theorem ok_Tape_init : mk_ok n_Tape_init 0 := ⟨mk_wt_in 270 rfl (by decide +kernel), by decide +kernel, mk_wt_in 7 rfl (by decide +kernel), ⟨by decide +kernel, by decide +kernel, by decide +kernel⟩, by decide +kernel, rfl⟩
set_option maxRecDepth 100000 in
theorem ok_Tape_append : mk_ok n_Tape_append 1 := ⟨mk_wt_in 559 rfl (by decide +kernel), by decide +kernel, mk_wt_in 7 rfl (by decide +kernel), ⟨by decide +kernel, by decide +kernel, by decide +kernel⟩, by decide +kernel, rfl⟩
set_option maxRecDepth 100000 in
theorem ok_Tape_rewind : mk_ok n_Tape_rewind 0 := ⟨mk_wt_in 583 rfl (by decide +kernel), by decide +kernel, mk_wt_in 7 rfl (by decide +kernel), ⟨by decide +kernel, by decide +kernel, by decide +kernel⟩, by decide +kernel, rfl⟩
set_option maxRecDepth 100000 in
theorem ok_Tape_advance : mk_ok n_Tape_advance 0 := ⟨mk_wt_in 587 rfl (by decide +kernel), by decide +kernel, mk_wt_in 7 rfl (by decide +kernel), ⟨by decide +kernel, by decide +kernel, by decide +kernel⟩, by decide +kernel, rfl⟩
set_option maxRecDepth 100000 in
theorem ok_Tape_numeralHere : mk_ok n_Tape_numeralHere 1 := ⟨mk_wt_in 749 rfl (by decide +kernel), by decide +kernel, mk_wt_in 7 rfl (by decide +kernel), ⟨by decide +kernel, by decide +kernel, by decide +kernel⟩, by decide +kernel, rfl⟩
set_option maxRecDepth 100000 in
theorem ok_Tape_numberHere : mk_ok n_Tape_numberHere 0 := ⟨mk_wt_in 732 rfl (by decide +kernel), by decide +kernel, mk_wt_in 7 rfl (by decide +kernel), ⟨by decide +kernel, by decide +kernel, by decide +kernel⟩, by decide +kernel, rfl⟩
set_option maxRecDepth 100000 in
theorem ok_Tape_lettersFrom : mk_ok n_Tape_lettersFrom 1 := ⟨mk_wt_in 597 rfl (by decide +kernel), by decide +kernel, mk_wt_in 7 rfl (by decide +kernel), ⟨by decide +kernel, by decide +kernel, by decide +kernel⟩, by decide +kernel, rfl⟩
set_option maxRecDepth 100000 in
theorem ok_Tape_numeralsFrom : mk_ok n_Tape_numeralsFrom 1 := ⟨mk_wt_in 653 rfl (by decide +kernel), by decide +kernel, mk_wt_in 7 rfl (by decide +kernel), ⟨by decide +kernel, by decide +kernel, by decide +kernel⟩, by decide +kernel, rfl⟩
set_option maxRecDepth 100000 in
theorem ok_Tape_keywordHere : mk_ok n_Tape_keywordHere 0 := ⟨mk_wt_in 601 rfl (by decide +kernel), by decide +kernel, mk_wt_in 7 rfl (by decide +kernel), ⟨by decide +kernel, by decide +kernel, by decide +kernel⟩, by decide +kernel, rfl⟩
set_option maxRecDepth 100000 in
theorem ok_Tape_spells : mk_ok n_Tape_spells 1 := ⟨mk_wt_in 605 rfl (by decide +kernel), by decide +kernel, mk_wt_in 7 rfl (by decide +kernel), ⟨by decide +kernel, by decide +kernel, by decide +kernel⟩, by decide +kernel, rfl⟩
set_option maxRecDepth 100000 in
theorem ok_Tape_isBlank : mk_ok n_Tape_isBlank 1 := ⟨mk_wt_in 590 rfl (by decide +kernel), by decide +kernel, mk_wt_in 7 rfl (by decide +kernel), ⟨by decide +kernel, by decide +kernel, by decide +kernel⟩, by decide +kernel, rfl⟩
set_option maxRecDepth 100000 in
theorem ok_Tape_isLetter : mk_ok n_Tape_isLetter 1 := ⟨mk_wt_in 593 rfl (by decide +kernel), by decide +kernel, mk_wt_in 7 rfl (by decide +kernel), ⟨by decide +kernel, by decide +kernel, by decide +kernel⟩, by decide +kernel, rfl⟩
set_option maxRecDepth 100000 in
theorem ok_Tape_isNumeral : mk_ok n_Tape_isNumeral 1 := ⟨mk_wt_in 649 rfl (by decide +kernel), by decide +kernel, mk_wt_in 7 rfl (by decide +kernel), ⟨by decide +kernel, by decide +kernel, by decide +kernel⟩, by decide +kernel, rfl⟩
set_option maxRecDepth 100000 in
theorem ok_World_init : mk_ok n_World_init 0 := ⟨mk_wt_in 34 rfl (by decide +kernel), by decide +kernel, mk_wt_in 2 rfl (by decide +kernel), ⟨by decide +kernel, by decide +kernel, by decide +kernel⟩, by decide +kernel, rfl⟩
set_option maxRecDepth 100000 in
theorem ok_World_hasLine : mk_ok n_World_hasLine 1 := ⟨mk_wt_in 511 rfl (by decide +kernel), by decide +kernel, mk_wt_in 2 rfl (by decide +kernel), ⟨by decide +kernel, by decide +kernel, by decide +kernel⟩, by decide +kernel, rfl⟩
set_option maxRecDepth 100000 in
theorem ok_World_drawThousand : mk_ok n_World_drawThousand 0 := ⟨mk_wt_in 896 rfl (by decide +kernel), by decide +kernel, mk_wt_in 2 rfl (by decide +kernel), ⟨by decide +kernel, by decide +kernel, by decide +kernel⟩, by decide +kernel, rfl⟩
set_option maxRecDepth 100000 in
theorem ok_World_keepLoss : mk_ok n_World_keepLoss 3 := ⟨mk_wt_in 882 rfl (by decide +kernel), by decide +kernel, mk_wt_in 2 rfl (by decide +kernel), ⟨by decide +kernel, by decide +kernel, by decide +kernel⟩, by decide +kernel, rfl⟩
set_option maxRecDepth 100000 in
theorem ok_World_keepLook : mk_ok n_World_keepLook 1 := ⟨mk_wt_in 1038 rfl (by decide +kernel), by decide +kernel, mk_wt_in 2 rfl (by decide +kernel), ⟨by decide +kernel, by decide +kernel, by decide +kernel⟩, by decide +kernel, rfl⟩
set_option maxRecDepth 100000 in
theorem ok_World_showsWithout : mk_ok n_World_showsWithout 1 := ⟨mk_wt_in 1046 rfl (by decide +kernel), by decide +kernel, mk_wt_in 2 rfl (by decide +kernel), ⟨by decide +kernel, by decide +kernel, by decide +kernel⟩, by decide +kernel, rfl⟩
set_option maxRecDepth 100000 in
theorem ok_World_copyFrom : mk_ok n_World_copyFrom 1 := ⟨mk_wt_in 1073 rfl (by decide +kernel), by decide +kernel, mk_wt_in 2 rfl (by decide +kernel), ⟨by decide +kernel, by decide +kernel, by decide +kernel⟩, by decide +kernel, rfl⟩
set_option maxRecDepth 100000 in
theorem ok_LS_init : mk_ok n_LS_init 0 := ⟨mk_wt_in 26 rfl (by decide +kernel), by decide +kernel, mk_wt_in 1 rfl (by decide +kernel), ⟨by decide +kernel, by decide +kernel, by decide +kernel⟩, by decide +kernel, rfl⟩
set_option maxRecDepth 100000 in
theorem ok_LS_state : mk_ok n_LS_state 1 := ⟨mk_wt_in 483 rfl (by decide +kernel), by decide +kernel, mk_wt_in 1 rfl (by decide +kernel), ⟨by decide +kernel, by decide +kernel, by decide +kernel⟩, by decide +kernel, rfl⟩
set_option maxRecDepth 100000 in
theorem ok_LS_line : mk_ok n_LS_line 6 := ⟨mk_wt_in 487 rfl (by decide +kernel), by decide +kernel, mk_wt_in 1 rfl (by decide +kernel), ⟨by decide +kernel, by decide +kernel, by decide +kernel⟩, by decide +kernel, rfl⟩
set_option maxRecDepth 100000 in
theorem ok_LS_set : mk_ok n_LS_set 3 := ⟨mk_wt_in 507 rfl (by decide +kernel), by decide +kernel, mk_wt_in 1 rfl (by decide +kernel), ⟨by decide +kernel, by decide +kernel, by decide +kernel⟩, by decide +kernel, rfl⟩
set_option maxRecDepth 100000 in
theorem ok_LS_write : mk_ok n_LS_write 2 := ⟨mk_wt_in 521 rfl (by decide +kernel), by decide +kernel, mk_wt_in 1 rfl (by decide +kernel), ⟨by decide +kernel, by decide +kernel, by decide +kernel⟩, by decide +kernel, rfl⟩
set_option maxRecDepth 100000 in
theorem ok_LS_blank : mk_ok n_LS_blank 1 := ⟨mk_wt_in 536 rfl (by decide +kernel), by decide +kernel, mk_wt_in 1 rfl (by decide +kernel), ⟨by decide +kernel, by decide +kernel, by decide +kernel⟩, by decide +kernel, rfl⟩
set_option maxRecDepth 100000 in
theorem ok_LS_read : mk_ok n_LS_read 2 := ⟨mk_wt_in 544 rfl (by decide +kernel), by decide +kernel, mk_wt_in 1 rfl (by decide +kernel), ⟨by decide +kernel, by decide +kernel, by decide +kernel⟩, by decide +kernel, rfl⟩
set_option maxRecDepth 100000 in
theorem ok_LS_feed : mk_ok n_LS_feed 5 := ⟨mk_wt_in 555 rfl (by decide +kernel), by decide +kernel, mk_wt_in 1 rfl (by decide +kernel), ⟨by decide +kernel, by decide +kernel, by decide +kernel⟩, by decide +kernel, rfl⟩
set_option maxRecDepth 100000 in
theorem ok_LS_end : mk_ok n_LS_end 1 := ⟨mk_wt_in 563 rfl (by decide +kernel), by decide +kernel, mk_wt_in 1 rfl (by decide +kernel), ⟨by decide +kernel, by decide +kernel, by decide +kernel⟩, by decide +kernel, rfl⟩
set_option maxRecDepth 100000 in
theorem ok_LS_text : mk_ok n_LS_text 1 := ⟨mk_wt_in 567 rfl (by decide +kernel), by decide +kernel, mk_wt_in 1 rfl (by decide +kernel), ⟨by decide +kernel, by decide +kernel, by decide +kernel⟩, by decide +kernel, rfl⟩
set_option maxRecDepth 100000 in
theorem ok_LS_fault : mk_ok n_LS_fault 1 := ⟨mk_wt_in 809 rfl (by decide +kernel), by decide +kernel, mk_wt_in 1 rfl (by decide +kernel), ⟨by decide +kernel, by decide +kernel, by decide +kernel⟩, by decide +kernel, rfl⟩
set_option maxRecDepth 100000 in
theorem ok_LS_send : mk_ok n_LS_send 5 := ⟨mk_wt_in 813 rfl (by decide +kernel), by decide +kernel, mk_wt_in 1 rfl (by decide +kernel), ⟨by decide +kernel, by decide +kernel, by decide +kernel⟩, by decide +kernel, rfl⟩
set_option maxRecDepth 100000 in
theorem ok_LS_day : mk_ok n_LS_day 0 := ⟨mk_wt_in 892 rfl (by decide +kernel), by decide +kernel, mk_wt_in 1 rfl (by decide +kernel), ⟨by decide +kernel, by decide +kernel, by decide +kernel⟩, by decide +kernel, rfl⟩
set_option maxRecDepth 100000 in
theorem ok_LS_of : mk_ok n_LS_of 2 := ⟨mk_wt_in 902 rfl (by decide +kernel), by decide +kernel, mk_wt_in 1 rfl (by decide +kernel), ⟨by decide +kernel, by decide +kernel, by decide +kernel⟩, by decide +kernel, rfl⟩
set_option maxRecDepth 100000 in
theorem ok_LS_book : mk_ok n_LS_book 2 := ⟨mk_wt_in 906 rfl (by decide +kernel), by decide +kernel, mk_wt_in 1 rfl (by decide +kernel), ⟨by decide +kernel, by decide +kernel, by decide +kernel⟩, by decide +kernel, rfl⟩
set_option maxRecDepth 100000 in
theorem ok_LS_creep : mk_ok n_LS_creep 0 := ⟨mk_wt_in 910 rfl (by decide +kernel), by decide +kernel, mk_wt_in 1 rfl (by decide +kernel), ⟨by decide +kernel, by decide +kernel, by decide +kernel⟩, by decide +kernel, rfl⟩
set_option maxRecDepth 100000 in
theorem ok_LS_comes : mk_ok n_LS_comes 3 := ⟨mk_wt_in 914 rfl (by decide +kernel), by decide +kernel, mk_wt_in 1 rfl (by decide +kernel), ⟨by decide +kernel, by decide +kernel, by decide +kernel⟩, by decide +kernel, rfl⟩
set_option maxRecDepth 100000 in
theorem ok_LS_meant : mk_ok n_LS_meant 4 := ⟨mk_wt_in 918 rfl (by decide +kernel), by decide +kernel, mk_wt_in 1 rfl (by decide +kernel), ⟨by decide +kernel, by decide +kernel, by decide +kernel⟩, by decide +kernel, rfl⟩
set_option maxRecDepth 100000 in
theorem ok_LS_twin : mk_ok n_LS_twin 3 := ⟨mk_wt_in 966 rfl (by decide +kernel), by decide +kernel, mk_wt_in 1 rfl (by decide +kernel), ⟨by decide +kernel, by decide +kernel, by decide +kernel⟩, by decide +kernel, rfl⟩
set_option maxRecDepth 100000 in
theorem ok_LS_code : mk_ok n_LS_code 3 := ⟨mk_wt_in 975 rfl (by decide +kernel), by decide +kernel, mk_wt_in 1 rfl (by decide +kernel), ⟨by decide +kernel, by decide +kernel, by decide +kernel⟩, by decide +kernel, rfl⟩
set_option maxRecDepth 100000 in
theorem ok_LS_best : mk_ok n_LS_best 3 := ⟨mk_wt_in 1002 rfl (by decide +kernel), by decide +kernel, mk_wt_in 1 rfl (by decide +kernel), ⟨by decide +kernel, by decide +kernel, by decide +kernel⟩, by decide +kernel, rfl⟩
set_option maxRecDepth 100000 in
theorem ok_LS_clerks : mk_ok n_LS_clerks 0 := ⟨mk_wt_in 1028 rfl (by decide +kernel), by decide +kernel, mk_wt_in 1 rfl (by decide +kernel), ⟨by decide +kernel, by decide +kernel, by decide +kernel⟩, by decide +kernel, rfl⟩
set_option maxRecDepth 100000 in
theorem ok_LS_look : mk_ok n_LS_look 1 := ⟨mk_wt_in 1034 rfl (by decide +kernel), by decide +kernel, mk_wt_in 1 rfl (by decide +kernel), ⟨by decide +kernel, by decide +kernel, by decide +kernel⟩, by decide +kernel, rfl⟩
set_option maxRecDepth 100000 in
theorem ok_LS_cure : mk_ok n_LS_cure 2 := ⟨mk_wt_in 1051 rfl (by decide +kernel), by decide +kernel, mk_wt_in 1 rfl (by decide +kernel), ⟨by decide +kernel, by decide +kernel, by decide +kernel⟩, by decide +kernel, rfl⟩
set_option maxRecDepth 100000 in
theorem ok_LS_undo : mk_ok n_LS_undo 0 := ⟨mk_wt_in 1061 rfl (by decide +kernel), by decide +kernel, mk_wt_in 1 rfl (by decide +kernel), ⟨by decide +kernel, by decide +kernel, by decide +kernel⟩, by decide +kernel, rfl⟩
set_option maxRecDepth 100000 in
theorem ok_LS_image : mk_ok n_LS_image 1 := ⟨mk_wt_in 1069 rfl (by decide +kernel), by decide +kernel, mk_wt_in 1 rfl (by decide +kernel), ⟨by decide +kernel, by decide +kernel, by decide +kernel⟩, by decide +kernel, rfl⟩
set_option maxRecDepth 100000 in
theorem ok_LS_tells : mk_ok n_LS_tells 1 := ⟨mk_wt_in 1088 rfl (by decide +kernel), by decide +kernel, mk_wt_in 1 rfl (by decide +kernel), ⟨by decide +kernel, by decide +kernel, by decide +kernel⟩, by decide +kernel, rfl⟩
set_option maxRecDepth 100000 in
theorem ok_LS_isStation : mk_ok n_LS_isStation 1 := ⟨mk_wt_in 490 rfl (by decide +kernel), by decide +kernel, mk_wt_in 1 rfl (by decide +kernel), ⟨by decide +kernel, by decide +kernel, by decide +kernel⟩, by decide +kernel, rfl⟩
set_option maxRecDepth 100000 in
theorem ok_LS_isKind : mk_ok n_LS_isKind 1 := ⟨mk_wt_in 493 rfl (by decide +kernel), by decide +kernel, mk_wt_in 1 rfl (by decide +kernel), ⟨by decide +kernel, by decide +kernel, by decide +kernel⟩, by decide +kernel, rfl⟩
set_option maxRecDepth 100000 in
theorem ok_LS_isSet : mk_ok n_LS_isSet 1 := ⟨mk_wt_in 496 rfl (by decide +kernel), by decide +kernel, mk_wt_in 1 rfl (by decide +kernel), ⟨by decide +kernel, by decide +kernel, by decide +kernel⟩, by decide +kernel, rfl⟩
set_option maxRecDepth 100000 in
theorem ok_LS_isOdds : mk_ok n_LS_isOdds 1 := ⟨mk_wt_in 499 rfl (by decide +kernel), by decide +kernel, mk_wt_in 1 rfl (by decide +kernel), ⟨by decide +kernel, by decide +kernel, by decide +kernel⟩, by decide +kernel, rfl⟩
set_option maxRecDepth 100000 in
theorem ok_LS_isFlag : mk_ok n_LS_isFlag 1 := ⟨mk_wt_in 517 rfl (by decide +kernel), by decide +kernel, mk_wt_in 1 rfl (by decide +kernel), ⟨by decide +kernel, by decide +kernel, by decide +kernel⟩, by decide +kernel, rfl⟩
set_option maxRecDepth 100000 in
theorem ok_LS_isDigit : mk_ok n_LS_isDigit 1 := ⟨mk_wt_in 524 rfl (by decide +kernel), by decide +kernel, mk_wt_in 1 rfl (by decide +kernel), ⟨by decide +kernel, by decide +kernel, by decide +kernel⟩, by decide +kernel, rfl⟩
set_option maxRecDepth 100000 in
theorem ok_LS_canBeSet : mk_ok n_LS_canBeSet 2 := ⟨mk_wt_in 514 rfl (by decide +kernel), by decide +kernel, mk_wt_in 1 rfl (by decide +kernel), ⟨by decide +kernel, by decide +kernel, by decide +kernel⟩, by decide +kernel, rfl⟩
set_option maxRecDepth 100000 in
theorem ok_LS_messageOf : mk_ok n_LS_messageOf 1 := ⟨mk_wt_in 528 rfl (by decide +kernel), by decide +kernel, mk_wt_in 1 rfl (by decide +kernel), ⟨by decide +kernel, by decide +kernel, by decide +kernel⟩, by decide +kernel, rfl⟩
set_option maxRecDepth 100000 in
theorem ok_LS_lengthOrDigit : mk_ok n_LS_lengthOrDigit 2 := ⟨mk_wt_in 547 rfl (by decide +kernel), by decide +kernel, mk_wt_in 1 rfl (by decide +kernel), ⟨by decide +kernel, by decide +kernel, by decide +kernel⟩, by decide +kernel, rfl⟩
set_option maxRecDepth 100000 in
theorem ok_LS_digitOfRow : mk_ok n_LS_digitOfRow 2 := ⟨mk_wt_in 962 rfl (by decide +kernel), by decide +kernel, mk_wt_in 1 rfl (by decide +kernel), ⟨by decide +kernel, by decide +kernel, by decide +kernel⟩, by decide +kernel, rfl⟩
set_option maxRecDepth 100000 in
theorem ok_LS_linesOfRoute : mk_ok n_LS_linesOfRoute 1 := ⟨mk_wt_in 817 rfl (by decide +kernel), by decide +kernel, mk_wt_in 1 rfl (by decide +kernel), ⟨by decide +kernel, by decide +kernel, by decide +kernel⟩, by decide +kernel, rfl⟩
set_option maxRecDepth 100000 in
theorem ok_LS_carryForGood : mk_ok n_LS_carryForGood 2 := ⟨mk_wt_in 839 rfl (by decide +kernel), by decide +kernel, mk_wt_in 1 rfl (by decide +kernel), ⟨by decide +kernel, by decide +kernel, by decide +kernel⟩, by decide +kernel, rfl⟩
set_option maxRecDepth 100000 in
theorem ok_Mo_init : mk_ok n_Mo_init 0 := ⟨mk_wt_in 1093 rfl (by decide +kernel), by decide +kernel, mk_wt_in 13 rfl (by decide +kernel), ⟨by decide +kernel, by decide +kernel, by decide +kernel⟩, by decide +kernel, rfl⟩
set_option maxRecDepth 100000 in
theorem ok_Mo_isIn : mk_ok n_Mo_isIn 3 := ⟨mk_wt_in 1229 rfl (by decide +kernel), by decide +kernel, mk_wt_in 13 rfl (by decide +kernel), ⟨by decide +kernel, by decide +kernel, by decide +kernel⟩, by decide +kernel, rfl⟩
set_option maxRecDepth 100000 in
theorem ok_Mo_isLine : mk_ok n_Mo_isLine 1 := ⟨mk_wt_in 1241 rfl (by decide +kernel), by decide +kernel, mk_wt_in 13 rfl (by decide +kernel), ⟨by decide +kernel, by decide +kernel, by decide +kernel⟩, by decide +kernel, rfl⟩
set_option maxRecDepth 100000 in
theorem ok_Mo_own : mk_ok n_Mo_own 2 := ⟨mk_wt_in 1369 rfl (by decide +kernel), by decide +kernel, mk_wt_in 13 rfl (by decide +kernel), ⟨by decide +kernel, by decide +kernel, by decide +kernel⟩, by decide +kernel, rfl⟩
set_option maxRecDepth 100000 in
theorem ok_Mo_gives : mk_ok n_Mo_gives 3 := ⟨mk_wt_in 1233 rfl (by decide +kernel), by decide +kernel, mk_wt_in 13 rfl (by decide +kernel), ⟨by decide +kernel, by decide +kernel, by decide +kernel⟩, by decide +kernel, rfl⟩
set_option maxRecDepth 100000 in
theorem ok_Mo_isStation : mk_ok n_Mo_isStation 1 := ⟨mk_wt_in 1226 rfl (by decide +kernel), by decide +kernel, mk_wt_in 13 rfl (by decide +kernel), ⟨by decide +kernel, by decide +kernel, by decide +kernel⟩, by decide +kernel, rfl⟩
set_option maxRecDepth 100000 in
theorem ok_Mo_state : mk_ok n_Mo_state 1 := ⟨mk_wt_in 1219 rfl (by decide +kernel), by decide +kernel, mk_wt_in 13 rfl (by decide +kernel), ⟨by decide +kernel, by decide +kernel, by decide +kernel⟩, by decide +kernel, rfl⟩
set_option maxRecDepth 100000 in
theorem ok_Mo_draw : mk_ok n_Mo_draw 1 := ⟨mk_wt_in 1419 rfl (by decide +kernel), by decide +kernel, mk_wt_in 13 rfl (by decide +kernel), ⟨by decide +kernel, by decide +kernel, by decide +kernel⟩, by decide +kernel, rfl⟩
set_option maxRecDepth 100000 in
theorem ok_Mo_line : mk_ok n_Mo_line 6 := ⟨mk_wt_in 1223 rfl (by decide +kernel), by decide +kernel, mk_wt_in 13 rfl (by decide +kernel), ⟨by decide +kernel, by decide +kernel, by decide +kernel⟩, by decide +kernel, rfl⟩
set_option maxRecDepth 100000 in
theorem ok_Mo_set : mk_ok n_Mo_set 3 := ⟨mk_wt_in 1237 rfl (by decide +kernel), by decide +kernel, mk_wt_in 13 rfl (by decide +kernel), ⟨by decide +kernel, by decide +kernel, by decide +kernel⟩, by decide +kernel, rfl⟩
set_option maxRecDepth 100000 in
theorem ok_Mo_write : mk_ok n_Mo_write 2 := ⟨mk_wt_in 1245 rfl (by decide +kernel), by decide +kernel, mk_wt_in 13 rfl (by decide +kernel), ⟨by decide +kernel, by decide +kernel, by decide +kernel⟩, by decide +kernel, rfl⟩
set_option maxRecDepth 100000 in
theorem ok_Mo_blank : mk_ok n_Mo_blank 1 := ⟨mk_wt_in 1249 rfl (by decide +kernel), by decide +kernel, mk_wt_in 13 rfl (by decide +kernel), ⟨by decide +kernel, by decide +kernel, by decide +kernel⟩, by decide +kernel, rfl⟩
set_option maxRecDepth 100000 in
theorem ok_Mo_read : mk_ok n_Mo_read 2 := ⟨mk_wt_in 1253 rfl (by decide +kernel), by decide +kernel, mk_wt_in 13 rfl (by decide +kernel), ⟨by decide +kernel, by decide +kernel, by decide +kernel⟩, by decide +kernel, rfl⟩
set_option maxRecDepth 100000 in
theorem ok_Mo_feed : mk_ok n_Mo_feed 5 := ⟨mk_wt_in 1257 rfl (by decide +kernel), by decide +kernel, mk_wt_in 13 rfl (by decide +kernel), ⟨by decide +kernel, by decide +kernel, by decide +kernel⟩, by decide +kernel, rfl⟩
set_option maxRecDepth 100000 in
theorem ok_Mo_end : mk_ok n_Mo_end 1 := ⟨mk_wt_in 1261 rfl (by decide +kernel), by decide +kernel, mk_wt_in 13 rfl (by decide +kernel), ⟨by decide +kernel, by decide +kernel, by decide +kernel⟩, by decide +kernel, rfl⟩
set_option maxRecDepth 100000 in
theorem ok_Mo_see : mk_ok n_Mo_see 1 := ⟨mk_wt_in 1273 rfl (by decide +kernel), by decide +kernel, mk_wt_in 13 rfl (by decide +kernel), ⟨by decide +kernel, by decide +kernel, by decide +kernel⟩, by decide +kernel, rfl⟩
set_option maxRecDepth 100000 in
theorem ok_Mo_isLetter : mk_ok n_Mo_isLetter 1 := ⟨mk_wt_in 1276 rfl (by decide +kernel), by decide +kernel, mk_wt_in 13 rfl (by decide +kernel), ⟨by decide +kernel, by decide +kernel, by decide +kernel⟩, by decide +kernel, rfl⟩
set_option maxRecDepth 100000 in
theorem ok_Mo_isDigit : mk_ok n_Mo_isDigit 1 := ⟨mk_wt_in 1305 rfl (by decide +kernel), by decide +kernel, mk_wt_in 13 rfl (by decide +kernel), ⟨by decide +kernel, by decide +kernel, by decide +kernel⟩, by decide +kernel, rfl⟩
set_option maxRecDepth 100000 in
theorem ok_Mo_is : mk_ok n_Mo_is 1 := ⟨mk_wt_in 1285 rfl (by decide +kernel), by decide +kernel, mk_wt_in 13 rfl (by decide +kernel), ⟨by decide +kernel, by decide +kernel, by decide +kernel⟩, by decide +kernel, rfl⟩
set_option maxRecDepth 100000 in
theorem ok_Mo_nameWord : mk_ok n_Mo_nameWord 0 := ⟨mk_wt_in 1296 rfl (by decide +kernel), by decide +kernel, mk_wt_in 13 rfl (by decide +kernel), ⟨by decide +kernel, by decide +kernel, by decide +kernel⟩, by decide +kernel, rfl⟩
set_option maxRecDepth 100000 in
theorem ok_Mo_word : mk_ok n_Mo_word 0 := ⟨mk_wt_in 1280 rfl (by decide +kernel), by decide +kernel, mk_wt_in 13 rfl (by decide +kernel), ⟨by decide +kernel, by decide +kernel, by decide +kernel⟩, by decide +kernel, rfl⟩
set_option maxRecDepth 100000 in
theorem ok_Mo_next0 : mk_ok n_Mo_next0 0 := ⟨mk_wt_in 1269 rfl (by decide +kernel), by decide +kernel, mk_wt_in 13 rfl (by decide +kernel), ⟨by decide +kernel, by decide +kernel, by decide +kernel⟩, by decide +kernel, rfl⟩
set_option maxRecDepth 100000 in
theorem ok_Mo_bad : mk_ok n_Mo_bad 1 := ⟨mk_wt_in 1313 rfl (by decide +kernel), by decide +kernel, mk_wt_in 13 rfl (by decide +kernel), ⟨by decide +kernel, by decide +kernel, by decide +kernel⟩, by decide +kernel, rfl⟩
set_option maxRecDepth 100000 in
theorem ok_Mo_need : mk_ok n_Mo_need 1 := ⟨mk_wt_in 1337 rfl (by decide +kernel), by decide +kernel, mk_wt_in 13 rfl (by decide +kernel), ⟨by decide +kernel, by decide +kernel, by decide +kernel⟩, by decide +kernel, rfl⟩
set_option maxRecDepth 100000 in
theorem ok_Mo_lay : mk_ok n_Mo_lay 2 := ⟨mk_wt_in 1333 rfl (by decide +kernel), by decide +kernel, mk_wt_in 13 rfl (by decide +kernel), ⟨by decide +kernel, by decide +kernel, by decide +kernel⟩, by decide +kernel, rfl⟩
set_option maxRecDepth 100000 in
theorem ok_Mo_opens : mk_ok n_Mo_opens 0 := ⟨mk_wt_in 1329 rfl (by decide +kernel), by decide +kernel, mk_wt_in 13 rfl (by decide +kernel), ⟨by decide +kernel, by decide +kernel, by decide +kernel⟩, by decide +kernel, rfl⟩
set_option maxRecDepth 100000 in
theorem ok_Mo_sumUp : mk_ok n_Mo_sumUp 0 := ⟨mk_wt_in 1341 rfl (by decide +kernel), by decide +kernel, mk_wt_in 13 rfl (by decide +kernel), ⟨by decide +kernel, by decide +kernel, by decide +kernel⟩, by decide +kernel, rfl⟩
set_option maxRecDepth 100000 in
theorem ok_Mo_product : mk_ok n_Mo_product 0 := ⟨mk_wt_in 1345 rfl (by decide +kernel), by decide +kernel, mk_wt_in 13 rfl (by decide +kernel), ⟨by decide +kernel, by decide +kernel, by decide +kernel⟩, by decide +kernel, rfl⟩
set_option maxRecDepth 100000 in
theorem ok_Mo_unit : mk_ok n_Mo_unit 0 := ⟨mk_wt_in 1349 rfl (by decide +kernel), by decide +kernel, mk_wt_in 13 rfl (by decide +kernel), ⟨by decide +kernel, by decide +kernel, by decide +kernel⟩, by decide +kernel, rfl⟩
set_option maxRecDepth 100000 in
theorem ok_Mo_any : mk_ok n_Mo_any 0 := ⟨mk_wt_in 1317 rfl (by decide +kernel), by decide +kernel, mk_wt_in 13 rfl (by decide +kernel), ⟨by decide +kernel, by decide +kernel, by decide +kernel⟩, by decide +kernel, rfl⟩
set_option maxRecDepth 100000 in
theorem ok_Mo_every : mk_ok n_Mo_every 0 := ⟨mk_wt_in 1321 rfl (by decide +kernel), by decide +kernel, mk_wt_in 13 rfl (by decide +kernel), ⟨by decide +kernel, by decide +kernel, by decide +kernel⟩, by decide +kernel, rfl⟩
set_option maxRecDepth 100000 in
theorem ok_Mo_oneTest : mk_ok n_Mo_oneTest 0 := ⟨mk_wt_in 1325 rfl (by decide +kernel), by decide +kernel, mk_wt_in 13 rfl (by decide +kernel), ⟨by decide +kernel, by decide +kernel, by decide +kernel⟩, by decide +kernel, rfl⟩
set_option maxRecDepth 100000 in
theorem ok_Mo_aLine : mk_ok n_Mo_aLine 0 := ⟨mk_wt_in 1309 rfl (by decide +kernel), by decide +kernel, mk_wt_in 13 rfl (by decide +kernel), ⟨by decide +kernel, by decide +kernel, by decide +kernel⟩, by decide +kernel, rfl⟩
set_option maxRecDepth 100000 in
theorem ok_Mo_text : mk_ok n_Mo_text 1 := ⟨mk_wt_in 1265 rfl (by decide +kernel), by decide +kernel, mk_wt_in 13 rfl (by decide +kernel), ⟨by decide +kernel, by decide +kernel, by decide +kernel⟩, by decide +kernel, rfl⟩
set_option maxRecDepth 100000 in
theorem ok_Mo_fault : mk_ok n_Mo_fault 1 := ⟨mk_wt_in 1353 rfl (by decide +kernel), by decide +kernel, mk_wt_in 13 rfl (by decide +kernel), ⟨by decide +kernel, by decide +kernel, by decide +kernel⟩, by decide +kernel, rfl⟩
set_option maxRecDepth 100000 in
theorem ok_Mo_both : mk_ok n_Mo_both 3 := ⟨mk_wt_in 1396 rfl (by decide +kernel), by decide +kernel, mk_wt_in 13 rfl (by decide +kernel), ⟨by decide +kernel, by decide +kernel, by decide +kernel⟩, by decide +kernel, rfl⟩
set_option maxRecDepth 100000 in
theorem ok_Mo_comesTo : mk_ok n_Mo_comesTo 3 := ⟨mk_wt_in 1393 rfl (by decide +kernel), by decide +kernel, mk_wt_in 13 rfl (by decide +kernel), ⟨by decide +kernel, by decide +kernel, by decide +kernel⟩, by decide +kernel, rfl⟩
set_option maxRecDepth 100000 in
theorem ok_Mo_puts : mk_ok n_Mo_puts 1 := ⟨mk_wt_in 1400 rfl (by decide +kernel), by decide +kernel, mk_wt_in 13 rfl (by decide +kernel), ⟨by decide +kernel, by decide +kernel, by decide +kernel⟩, by decide +kernel, rfl⟩
set_option maxRecDepth 100000 in
theorem ok_Mo_ruleFor : mk_ok n_Mo_ruleFor 2 := ⟨mk_wt_in 1389 rfl (by decide +kernel), by decide +kernel, mk_wt_in 13 rfl (by decide +kernel), ⟨by decide +kernel, by decide +kernel, by decide +kernel⟩, by decide +kernel, rfl⟩
set_option maxRecDepth 100000 in
theorem ok_Mo_tenTo : mk_ok n_Mo_tenTo 1 := ⟨mk_wt_in 1403 rfl (by decide +kernel), by decide +kernel, mk_wt_in 13 rfl (by decide +kernel), ⟨by decide +kernel, by decide +kernel, by decide +kernel⟩, by decide +kernel, rfl⟩
set_option maxRecDepth 100000 in
theorem ok_Mo_makes : mk_ok n_Mo_makes 2 := ⟨mk_wt_in 1385 rfl (by decide +kernel), by decide +kernel, mk_wt_in 13 rfl (by decide +kernel), ⟨by decide +kernel, by decide +kernel, by decide +kernel⟩, by decide +kernel, rfl⟩
set_option maxRecDepth 100000 in
theorem ok_Mo_writes : mk_ok n_Mo_writes 3 := ⟨mk_wt_in 1407 rfl (by decide +kernel), by decide +kernel, mk_wt_in 13 rfl (by decide +kernel), ⟨by decide +kernel, by decide +kernel, by decide +kernel⟩, by decide +kernel, rfl⟩
set_option maxRecDepth 100000 in
theorem ok_Mo_goesBy : mk_ok n_Mo_goesBy 3 := ⟨mk_wt_in 1381 rfl (by decide +kernel), by decide +kernel, mk_wt_in 13 rfl (by decide +kernel), ⟨by decide +kernel, by decide +kernel, by decide +kernel⟩, by decide +kernel, rfl⟩
set_option maxRecDepth 100000 in
theorem ok_Mo_takesPaper : mk_ok n_Mo_takesPaper 0 := ⟨mk_wt_in 1377 rfl (by decide +kernel), by decide +kernel, mk_wt_in 13 rfl (by decide +kernel), ⟨by decide +kernel, by decide +kernel, by decide +kernel⟩, by decide +kernel, rfl⟩
set_option maxRecDepth 100000 in
theorem ok_Mo_otherEnd : mk_ok n_Mo_otherEnd 2 := ⟨mk_wt_in 1365 rfl (by decide +kernel), by decide +kernel, mk_wt_in 13 rfl (by decide +kernel), ⟨by decide +kernel, by decide +kernel, by decide +kernel⟩, by decide +kernel, rfl⟩
set_option maxRecDepth 100000 in
theorem ok_Mo_keeps : mk_ok n_Mo_keeps 0 := ⟨mk_wt_in 1373 rfl (by decide +kernel), by decide +kernel, mk_wt_in 13 rfl (by decide +kernel), ⟨by decide +kernel, by decide +kernel, by decide +kernel⟩, by decide +kernel, rfl⟩
set_option maxRecDepth 100000 in
theorem ok_Mo_undo : mk_ok n_Mo_undo 0 := ⟨mk_wt_in 1357 rfl (by decide +kernel), by decide +kernel, mk_wt_in 13 rfl (by decide +kernel), ⟨by decide +kernel, by decide +kernel, by decide +kernel⟩, by decide +kernel, rfl⟩
set_option maxRecDepth 100000 in
theorem ok_Mo_valueOf : mk_ok n_Mo_valueOf 2 := ⟨mk_wt_in 1411 rfl (by decide +kernel), by decide +kernel, mk_wt_in 13 rfl (by decide +kernel), ⟨by decide +kernel, by decide +kernel, by decide +kernel⟩, by decide +kernel, rfl⟩
set_option maxRecDepth 100000 in
theorem ok_Mo_send : mk_ok n_Mo_send 5 := ⟨mk_wt_in 1361 rfl (by decide +kernel), by decide +kernel, mk_wt_in 13 rfl (by decide +kernel), ⟨by decide +kernel, by decide +kernel, by decide +kernel⟩, by decide +kernel, rfl⟩
set_option maxRecDepth 100000 in
theorem ok_Mo_day : mk_ok n_Mo_day 0 := ⟨mk_wt_in 1415 rfl (by decide +kernel), by decide +kernel, mk_wt_in 13 rfl (by decide +kernel), ⟨by decide +kernel, by decide +kernel, by decide +kernel⟩, by decide +kernel, rfl⟩
set_option maxRecDepth 100000 in
theorem ok_Mo_of : mk_ok n_Mo_of 2 := ⟨mk_wt_in 1425 rfl (by decide +kernel), by decide +kernel, mk_wt_in 13 rfl (by decide +kernel), ⟨by decide +kernel, by decide +kernel, by decide +kernel⟩, by decide +kernel, rfl⟩
set_option maxRecDepth 100000 in
theorem ok_Mo_book : mk_ok n_Mo_book 2 := ⟨mk_wt_in 1429 rfl (by decide +kernel), by decide +kernel, mk_wt_in 13 rfl (by decide +kernel), ⟨by decide +kernel, by decide +kernel, by decide +kernel⟩, by decide +kernel, rfl⟩
set_option maxRecDepth 100000 in
theorem ok_Mo_creep : mk_ok n_Mo_creep 0 := ⟨mk_wt_in 1433 rfl (by decide +kernel), by decide +kernel, mk_wt_in 13 rfl (by decide +kernel), ⟨by decide +kernel, by decide +kernel, by decide +kernel⟩, by decide +kernel, rfl⟩
set_option maxRecDepth 100000 in
theorem ok_Mo_isFrost : mk_ok n_Mo_isFrost 2 := ⟨mk_wt_in 1441 rfl (by decide +kernel), by decide +kernel, mk_wt_in 13 rfl (by decide +kernel), ⟨by decide +kernel, by decide +kernel, by decide +kernel⟩, by decide +kernel, rfl⟩
set_option maxRecDepth 100000 in
theorem ok_Mo_comes : mk_ok n_Mo_comes 3 := ⟨mk_wt_in 1437 rfl (by decide +kernel), by decide +kernel, mk_wt_in 13 rfl (by decide +kernel), ⟨by decide +kernel, by decide +kernel, by decide +kernel⟩, by decide +kernel, rfl⟩
set_option maxRecDepth 100000 in
theorem ok_Mo_takesNumber : mk_ok n_Mo_takesNumber 2 := ⟨mk_wt_in 1452 rfl (by decide +kernel), by decide +kernel, mk_wt_in 13 rfl (by decide +kernel), ⟨by decide +kernel, by decide +kernel, by decide +kernel⟩, by decide +kernel, rfl⟩
set_option maxRecDepth 100000 in
theorem ok_Mo_powerOf : mk_ok n_Mo_powerOf 1 := ⟨mk_wt_in 1448 rfl (by decide +kernel), by decide +kernel, mk_wt_in 13 rfl (by decide +kernel), ⟨by decide +kernel, by decide +kernel, by decide +kernel⟩, by decide +kernel, rfl⟩
set_option maxRecDepth 100000 in
theorem ok_Mo_isSeen : mk_ok n_Mo_isSeen 0 := ⟨mk_wt_in 1456 rfl (by decide +kernel), by decide +kernel, mk_wt_in 13 rfl (by decide +kernel), ⟨by decide +kernel, by decide +kernel, by decide +kernel⟩, by decide +kernel, rfl⟩
set_option maxRecDepth 100000 in
theorem ok_Mo_digitOf : mk_ok n_Mo_digitOf 3 := ⟨mk_wt_in 1460 rfl (by decide +kernel), by decide +kernel, mk_wt_in 13 rfl (by decide +kernel), ⟨by decide +kernel, by decide +kernel, by decide +kernel⟩, by decide +kernel, rfl⟩
set_option maxRecDepth 100000 in
theorem ok_Mo_meant : mk_ok n_Mo_meant 4 := ⟨mk_wt_in 1445 rfl (by decide +kernel), by decide +kernel, mk_wt_in 13 rfl (by decide +kernel), ⟨by decide +kernel, by decide +kernel, by decide +kernel⟩, by decide +kernel, rfl⟩
set_option maxRecDepth 100000 in
theorem ok_Mo_isPaper : mk_ok n_Mo_isPaper 2 := ⟨mk_wt_in 1468 rfl (by decide +kernel), by decide +kernel, mk_wt_in 13 rfl (by decide +kernel), ⟨by decide +kernel, by decide +kernel, by decide +kernel⟩, by decide +kernel, rfl⟩
set_option maxRecDepth 100000 in
theorem ok_Mo_twin : mk_ok n_Mo_twin 3 := ⟨mk_wt_in 1464 rfl (by decide +kernel), by decide +kernel, mk_wt_in 13 rfl (by decide +kernel), ⟨by decide +kernel, by decide +kernel, by decide +kernel⟩, by decide +kernel, rfl⟩
set_option maxRecDepth 100000 in
theorem ok_Mo_couldComeOf : mk_ok n_Mo_couldComeOf 1 := ⟨mk_wt_in 1480 rfl (by decide +kernel), by decide +kernel, mk_wt_in 13 rfl (by decide +kernel), ⟨by decide +kernel, by decide +kernel, by decide +kernel⟩, by decide +kernel, rfl⟩
set_option maxRecDepth 100000 in
theorem ok_Mo_tries : mk_ok n_Mo_tries 3 := ⟨mk_wt_in 1476 rfl (by decide +kernel), by decide +kernel, mk_wt_in 13 rfl (by decide +kernel), ⟨by decide +kernel, by decide +kernel, by decide +kernel⟩, by decide +kernel, rfl⟩
set_option maxRecDepth 100000 in
theorem ok_Mo_code : mk_ok n_Mo_code 3 := ⟨mk_wt_in 1472 rfl (by decide +kernel), by decide +kernel, mk_wt_in 13 rfl (by decide +kernel), ⟨by decide +kernel, by decide +kernel, by decide +kernel⟩, by decide +kernel, rfl⟩
set_option maxRecDepth 100000 in
theorem ok_Mo_lies : mk_ok n_Mo_lies 1 := ⟨mk_wt_in 1492 rfl (by decide +kernel), by decide +kernel, mk_wt_in 13 rfl (by decide +kernel), ⟨by decide +kernel, by decide +kernel, by decide +kernel⟩, by decide +kernel, rfl⟩
set_option maxRecDepth 100000 in
theorem ok_Mo_comesBack : mk_ok n_Mo_comesBack 1 := ⟨mk_wt_in 1496 rfl (by decide +kernel), by decide +kernel, mk_wt_in 13 rfl (by decide +kernel), ⟨by decide +kernel, by decide +kernel, by decide +kernel⟩, by decide +kernel, rfl⟩
set_option maxRecDepth 100000 in
theorem ok_Mo_seeks : mk_ok n_Mo_seeks 5 := ⟨mk_wt_in 1488 rfl (by decide +kernel), by decide +kernel, mk_wt_in 13 rfl (by decide +kernel), ⟨by decide +kernel, by decide +kernel, by decide +kernel⟩, by decide +kernel, rfl⟩
set_option maxRecDepth 100000 in
theorem ok_Mo_best : mk_ok n_Mo_best 3 := ⟨mk_wt_in 1484 rfl (by decide +kernel), by decide +kernel, mk_wt_in 13 rfl (by decide +kernel), ⟨by decide +kernel, by decide +kernel, by decide +kernel⟩, by decide +kernel, rfl⟩
set_option maxRecDepth 100000 in
theorem ok_Mo_clerks : mk_ok n_Mo_clerks 0 := ⟨mk_wt_in 1500 rfl (by decide +kernel), by decide +kernel, mk_wt_in 13 rfl (by decide +kernel), ⟨by decide +kernel, by decide +kernel, by decide +kernel⟩, by decide +kernel, rfl⟩
set_option maxRecDepth 100000 in
theorem ok_Mo_clerksOf : mk_ok n_Mo_clerksOf 1 := ⟨mk_wt_in 1504 rfl (by decide +kernel), by decide +kernel, mk_wt_in 13 rfl (by decide +kernel), ⟨by decide +kernel, by decide +kernel, by decide +kernel⟩, by decide +kernel, rfl⟩
set_option maxRecDepth 100000 in
theorem ok_Mo_look : mk_ok n_Mo_look 1 := ⟨mk_wt_in 1508 rfl (by decide +kernel), by decide +kernel, mk_wt_in 13 rfl (by decide +kernel), ⟨by decide +kernel, by decide +kernel, by decide +kernel⟩, by decide +kernel, rfl⟩
set_option maxRecDepth 100000 in
theorem ok_Mo_isSo : mk_ok n_Mo_isSo 2 := ⟨mk_wt_in 1516 rfl (by decide +kernel), by decide +kernel, mk_wt_in 13 rfl (by decide +kernel), ⟨by decide +kernel, by decide +kernel, by decide +kernel⟩, by decide +kernel, rfl⟩
set_option maxRecDepth 100000 in
theorem ok_Mo_cure : mk_ok n_Mo_cure 2 := ⟨mk_wt_in 1512 rfl (by decide +kernel), by decide +kernel, mk_wt_in 13 rfl (by decide +kernel), ⟨by decide +kernel, by decide +kernel, by decide +kernel⟩, by decide +kernel, rfl⟩
set_option maxRecDepth 100000 in
theorem ok_Mo_image : mk_ok n_Mo_image 1 := ⟨mk_wt_in 1520 rfl (by decide +kernel), by decide +kernel, mk_wt_in 13 rfl (by decide +kernel), ⟨by decide +kernel, by decide +kernel, by decide +kernel⟩, by decide +kernel, rfl⟩
set_option maxRecDepth 100000 in
theorem ok_Mo_tells : mk_ok n_Mo_tells 1 := ⟨mk_wt_in 1524 rfl (by decide +kernel), by decide +kernel, mk_wt_in 13 rfl (by decide +kernel), ⟨by decide +kernel, by decide +kernel, by decide +kernel⟩, by decide +kernel, rfl⟩
set_option maxRecDepth 100000 in
theorem ok_Int_bitCount : mk_ok n_Int_bitCount 1 := ⟨mk_wt_in 1054 rfl (by decide +kernel), by decide +kernel, mk_wt_in 21 rfl (by decide +kernel), ⟨by decide +kernel, by decide +kernel, by decide +kernel⟩, by decide +kernel, rfl⟩
set_option maxRecDepth 100000 in
theorem ok_Str_length : mk_ok n_Str_length 0 := ⟨mk_wt_in 666 rfl (by decide +kernel), by decide +kernel, mk_wt_in 14 rfl (by decide +kernel), ⟨by decide +kernel, by decide +kernel, by decide +kernel⟩, by decide +kernel, rfl⟩
set_option maxRecDepth 100000 in
theorem ok_Str_charAt : mk_ok n_Str_charAt 1 := ⟨mk_wt_in 610 rfl (by decide +kernel), by decide +kernel, mk_wt_in 14 rfl (by decide +kernel), ⟨by decide +kernel, by decide +kernel, by decide +kernel⟩, by decide +kernel, rfl⟩
set_option maxRecDepth 100000 in
theorem ok_Str_indexOf : mk_ok n_Str_indexOf 1 := ⟨mk_wt_in 658 rfl (by decide +kernel), by decide +kernel, mk_wt_in 14 rfl (by decide +kernel), ⟨by decide +kernel, by decide +kernel, by decide +kernel⟩, by decide +kernel, rfl⟩
set_option maxRecDepth 100000 in
theorem ok_Str_indexOf2 : mk_ok n_Str_indexOf2 2 := ⟨mk_wt_in 662 rfl (by decide +kernel), by decide +kernel, mk_wt_in 14 rfl (by decide +kernel), ⟨by decide +kernel, by decide +kernel, by decide +kernel⟩, by decide +kernel, rfl⟩
set_option maxRecDepth 100000 in
theorem ok_Str_coder : mk_ok n_Str_coder 0 := ⟨mk_wt_in 670 rfl (by decide +kernel), by decide +kernel, mk_wt_in 14 rfl (by decide +kernel), ⟨by decide +kernel, by decide +kernel, by decide +kernel⟩, by decide +kernel, rfl⟩
set_option maxRecDepth 100000 in
theorem ok_Str_isLatin1 : mk_ok n_Str_isLatin1 0 := ⟨mk_wt_in 614 rfl (by decide +kernel), by decide +kernel, mk_wt_in 14 rfl (by decide +kernel), ⟨by decide +kernel, by decide +kernel, by decide +kernel⟩, by decide +kernel, rfl⟩
set_option maxRecDepth 100000 in
theorem ok_Str_checkIndex : mk_ok n_Str_checkIndex 2 := ⟨mk_wt_in 622 rfl (by decide +kernel), by decide +kernel, mk_wt_in 14 rfl (by decide +kernel), ⟨by decide +kernel, by decide +kernel, by decide +kernel⟩, by decide +kernel, rfl⟩
set_option maxRecDepth 100000 in
theorem ok_L1_charAt : mk_ok n_L1_charAt 2 := ⟨mk_wt_in 619 rfl (by decide +kernel), by decide +kernel, mk_wt_in 15 rfl (by decide +kernel), ⟨by decide +kernel, by decide +kernel, by decide +kernel⟩, by decide +kernel, rfl⟩
set_option maxRecDepth 100000 in
theorem ok_L1_canEncode : mk_ok n_L1_canEncode 1 := ⟨mk_wt_in 676 rfl (by decide +kernel), by decide +kernel, mk_wt_in 15 rfl (by decide +kernel), ⟨by decide +kernel, by decide +kernel, by decide +kernel⟩, by decide +kernel, rfl⟩
set_option maxRecDepth 100000 in
theorem ok_L1_indexOf : mk_ok n_L1_indexOf 4 := ⟨mk_wt_in 673 rfl (by decide +kernel), by decide +kernel, mk_wt_in 15 rfl (by decide +kernel), ⟨by decide +kernel, by decide +kernel, by decide +kernel⟩, by decide +kernel, rfl⟩
set_option maxRecDepth 100000 in
theorem ok_L1_indexOfChar : mk_ok n_L1_indexOfChar 4 := ⟨mk_wt_in 685 rfl (by decide +kernel), by decide +kernel, mk_wt_in 15 rfl (by decide +kernel), ⟨by decide +kernel, by decide +kernel, by decide +kernel⟩, by decide +kernel, rfl⟩
set_option maxRecDepth 100000 in
theorem ok_Pre_checkIndex : mk_ok n_Pre_checkIndex 3 := ⟨mk_wt_in 627 rfl (by decide +kernel), by decide +kernel, mk_wt_in 16 rfl (by decide +kernel), ⟨by decide +kernel, by decide +kernel, by decide +kernel⟩, by decide +kernel, rfl⟩
