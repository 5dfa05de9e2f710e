/-! ===== class tables (from the printed names), links, their words (written by genlinks.py) ===== -/
def RX0 : String := "EmptyChairs$Assembly"
def TX0 : u_T := fun k => match k with
  | 0 => ("EmptyChairs$Assembly", "law", "[I", true)
  | 1 => ("EmptyChairs$Assembly", "minute", "I", false)
  | 2 => ("EmptyChairs$Assembly", "rung", "[I", true)
  | 3 => ("EmptyChairs$Assembly", "parties", "I", false)
  | 4 => ("EmptyChairs$Assembly", "members", "I", false)
  | 5 => ("EmptyChairs$Assembly", "motions", "I", false)
  | 6 => ("EmptyChairs$Assembly", "rooms", "I", false)
  | 7 => ("EmptyChairs$Assembly", "partyNames", "[J", true)
  | 8 => ("EmptyChairs$Assembly", "memberAt", "[LEmptyChairs$Member;", true)
  | 9 => ("EmptyChairs$Assembly", "motionNames", "[J", true)
  | 10 => ("EmptyChairs$Assembly", "forSets", "[I", true)
  | 11 => ("EmptyChairs$Assembly", "againstSets", "[I", true)
  | 12 => ("EmptyChairs$Assembly", "roomNames", "[J", true)
  | 13 => ("EmptyChairs$Assembly", "takes", "[I", true)
  | 14 => ("EmptyChairs$Assembly", "odds", "[I", true)
  | _ => ("EmptyChairs$Assembly", "script", "LEmptyChairs$Script;", true)
def tyX0 : Nat → FieldType := fun k => match k with
  | 0 => .array .int
  | 1 => .int
  | 2 => .array .int
  | 3 => .int
  | 4 => .int
  | 5 => .int
  | 6 => .int
  | 7 => .array .long
  | 8 => .array (.object "EmptyChairs$Member")
  | 9 => .array .long
  | 10 => .array .int
  | 11 => .array .int
  | 12 => .array .long
  | 13 => .array .int
  | 14 => .array .int
  | _ => .object "EmptyChairs$Script"
abbrev wsX00 : List Cond := u_ws RX0 TX0 16
theorem nmX0 : ∀ a, a < 16 → ∀ b, b < 16 → a ≠ b → (TX0 a).2.1 ≠ (TX0 b).2.1 := by decide +kernel
theorem tyX0_ok : ∀ k, k < 16 → parseFieldDescriptor (TX0 k).2.2.1 = some (tyX0 k) := by decide +kernel
def RX1 : String := "EmptyChairs$AssemblyParser"
def TX1 : u_T := fun k => match k with
  | 0 => ("EmptyChairs$AssemblyParser", "tape", "LEmptyChairs$Tape;", true)
  | 1 => ("EmptyChairs$AssemblyParser", "draft", "LEmptyChairs$Assembly;", true)
  | 2 => ("EmptyChairs$AssemblyParser", "lawsTold", "I", false)
  | 3 => ("EmptyChairs$AssemblyParser", "newName", "J", false)
  | 4 => ("EmptyChairs$AssemblyParser", "found", "I", false)
  | _ => ("EmptyChairs$AssemblyParser", "set", "I", false)
def tyX1 : Nat → FieldType := fun k => match k with
  | 0 => .object "EmptyChairs$Tape"
  | 1 => .object "EmptyChairs$Assembly"
  | 2 => .int
  | 3 => .long
  | 4 => .int
  | _ => .int
abbrev wsX10 : List Cond := u_ws RX1 TX1 6
theorem nmX1 : ∀ a, a < 6 → ∀ b, b < 6 → a ≠ b → (TX1 a).2.1 ≠ (TX1 b).2.1 := by decide +kernel
theorem tyX1_ok : ∀ k, k < 6 → parseFieldDescriptor (TX1 k).2.2.1 = some (tyX1 k) := by decide +kernel
def RX2 : String := "EmptyChairs$Member"
def TX2 : u_T := fun k => match k with
  | 0 => ("EmptyChairs$Member", "name", "J", false)
  | 1 => ("EmptyChairs$Member", "party", "I", false)
  | 2 => ("EmptyChairs$Member", "yards", "I", false)
  | 3 => ("EmptyChairs$Member", "speed", "I", false)
  | 4 => ("EmptyChairs$Member", "price", "I", false)
  | 5 => ("EmptyChairs$Member", "way", "I", false)
  | 6 => ("EmptyChairs$Member", "yearsDead", "I", false)
  | 7 => ("EmptyChairs$Member", "twin", "I", false)
  | 8 => ("EmptyChairs$Member", "isSick", "Z", false)
  | _ => ("EmptyChairs$Member", "isHidden", "Z", false)
def tyX2 : Nat → FieldType := fun k => match k with
  | 0 => .long
  | 1 => .int
  | 2 => .int
  | 3 => .int
  | 4 => .int
  | 5 => .int
  | 6 => .int
  | 7 => .int
  | 8 => .boolean
  | _ => .boolean
abbrev wsX20 : List Cond := u_ws RX2 TX2 10
theorem nmX2 : ∀ a, a < 10 → ∀ b, b < 10 → a ≠ b → (TX2 a).2.1 ≠ (TX2 b).2.1 := by decide +kernel
theorem tyX2_ok : ∀ k, k < 10 → parseFieldDescriptor (TX2 k).2.2.1 = some (tyX2 k) := by decide +kernel
def RX3 : String := "EmptyChairs$Runner"
def TX3 : u_T := fun k => match k with
  | 0 => ("EmptyChairs$Runner", "scale", "LEmptyChairs$Scale;", true)
  | 1 => ("EmptyChairs$Runner", "hall", "LEmptyChairs$Assembly;", false)
  | 2 => ("EmptyChairs$Runner", "draws", "I", false)
  | 3 => ("EmptyChairs$Runner", "stepsDone", "I", false)
  | 4 => ("EmptyChairs$Runner", "isHalted", "Z", false)
  | _ => ("EmptyChairs$Runner", "told", "[I", true)
def tyX3 : Nat → FieldType := fun k => match k with
  | 0 => .object "EmptyChairs$Scale"
  | 1 => .object "EmptyChairs$Assembly"
  | 2 => .int
  | 3 => .int
  | 4 => .boolean
  | _ => .array .int
abbrev wsX30 : List Cond := u_ws RX3 TX3 6
theorem nmX3 : ∀ a, a < 6 → ∀ b, b < 6 → a ≠ b → (TX3 a).2.1 ≠ (TX3 b).2.1 := by decide +kernel
theorem tyX3_ok : ∀ k, k < 6 → parseFieldDescriptor (TX3 k).2.2.1 = some (tyX3 k) := by decide +kernel
def RX4 : String := "EmptyChairs$Scale"
def TX4 : u_T := fun k => match k with
  | 0 => ("EmptyChairs$Scale", "hall", "LEmptyChairs$Assembly;", false)
  | 1 => ("EmptyChairs$Scale", "far", "I", false)
  | 2 => ("EmptyChairs$Scale", "buried", "I", false)
  | 3 => ("EmptyChairs$Scale", "ill", "I", false)
  | 4 => ("EmptyChairs$Scale", "walkers", "I", false)
  | 5 => ("EmptyChairs$Scale", "at", "[I", true)
  | 6 => ("EmptyChairs$Scale", "inSet", "I", false)
  | 7 => ("EmptyChairs$Scale", "weights", "[I", true)
  | _ => ("EmptyChairs$Scale", "powers", "[I", true)
def tyX4 : Nat → FieldType := fun k => match k with
  | 0 => .object "EmptyChairs$Assembly"
  | 1 => .int
  | 2 => .int
  | 3 => .int
  | 4 => .int
  | 5 => .array .int
  | 6 => .int
  | 7 => .array .int
  | _ => .array .int
abbrev wsX40 : List Cond := u_ws RX4 TX4 9
theorem nmX4 : ∀ a, a < 9 → ∀ b, b < 9 → a ≠ b → (TX4 a).2.1 ≠ (TX4 b).2.1 := by decide +kernel
theorem tyX4_ok : ∀ k, k < 9 → parseFieldDescriptor (TX4 k).2.2.1 = some (tyX4 k) := by decide +kernel
def RX5 : String := "EmptyChairs$Script"
def TX5 : u_T := fun k => match k with
  | 0 => ("EmptyChairs$Script", "isThere", "Z", false)
  | 1 => ("EmptyChairs$Script", "steps", "I", false)
  | 2 => ("EmptyChairs$Script", "kind", "[I", true)
  | 3 => ("EmptyChairs$Script", "test", "[I", true)
  | 4 => ("EmptyChairs$Script", "subject", "[I", true)
  | 5 => ("EmptyChairs$Script", "compares", "[I", true)
  | 6 => ("EmptyChairs$Script", "number", "[I", true)
  | _ => ("EmptyChairs$Script", "next", "[I", true)
def tyX5 : Nat → FieldType := fun k => match k with
  | 0 => .boolean
  | 1 => .int
  | 2 => .array .int
  | 3 => .array .int
  | 4 => .array .int
  | 5 => .array .int
  | 6 => .array .int
  | _ => .array .int
abbrev wsX50 : List Cond := u_ws RX5 TX5 8
theorem nmX5 : ∀ a, a < 8 → ∀ b, b < 8 → a ≠ b → (TX5 a).2.1 ≠ (TX5 b).2.1 := by decide +kernel
theorem tyX5_ok : ∀ k, k < 8 → parseFieldDescriptor (TX5 k).2.2.1 = some (tyX5 k) := by decide +kernel
def RX6 : String := "EmptyChairs$ScriptParser"
def TX6 : u_T := fun k => match k with
  | 0 => ("EmptyChairs$ScriptParser", "draft", "LEmptyChairs$Script;", true)
  | 1 => ("EmptyChairs$ScriptParser", "tape", "LEmptyChairs$Tape;", true)
  | 2 => ("EmptyChairs$ScriptParser", "hall", "LEmptyChairs$Assembly;", true)
  | 3 => ("EmptyChairs$ScriptParser", "open", "[I", true)
  | _ => ("EmptyChairs$ScriptParser", "depth", "I", false)
def tyX6 : Nat → FieldType := fun k => match k with
  | 0 => .object "EmptyChairs$Script"
  | 1 => .object "EmptyChairs$Tape"
  | 2 => .object "EmptyChairs$Assembly"
  | 3 => .array .int
  | _ => .int
abbrev wsX60 : List Cond := u_ws RX6 TX6 5
theorem nmX6 : ∀ a, a < 5 → ∀ b, b < 5 → a ≠ b → (TX6 a).2.1 ≠ (TX6 b).2.1 := by decide +kernel
theorem tyX6_ok : ∀ k, k < 5 → parseFieldDescriptor (TX6 k).2.2.1 = some (tyX6 k) := by decide +kernel
def RX7 : String := "EmptyChairs$Strategy"
def TX7 : u_T := fun k => match k with
  | 0 => ("EmptyChairs$Strategy", "scale", "LEmptyChairs$Scale;", true)
  | 1 => ("EmptyChairs$Strategy", "hall", "LEmptyChairs$Assembly;", false)
  | 2 => ("EmptyChairs$Strategy", "first", "I", false)
  | 3 => ("EmptyChairs$Strategy", "second", "I", false)
  | 4 => ("EmptyChairs$Strategy", "turns", "I", false)
  | _ => ("EmptyChairs$Strategy", "opening", "I", false)
def tyX7 : Nat → FieldType := fun k => match k with
  | 0 => .object "EmptyChairs$Scale"
  | 1 => .object "EmptyChairs$Assembly"
  | 2 => .int
  | 3 => .int
  | 4 => .int
  | _ => .int
abbrev wsX70 : List Cond := u_ws RX7 TX7 6
theorem nmX7 : ∀ a, a < 6 → ∀ b, b < 6 → a ≠ b → (TX7 a).2.1 ≠ (TX7 b).2.1 := by decide +kernel
theorem tyX7_ok : ∀ k, k < 6 → parseFieldDescriptor (TX7 k).2.2.1 = some (tyX7 k) := by decide +kernel
def RX8 : String := "EmptyChairs$Tallies"
def TX8 : u_T := fun k => match k with
  | 0 => ("EmptyChairs$Tallies", "scale", "LEmptyChairs$Scale;", true)
  | 1 => ("EmptyChairs$Tallies", "ways", "I", false)
  | 2 => ("EmptyChairs$Tallies", "alwaysAway", "I", false)
  | _ => ("EmptyChairs$Tallies", "waysAway", "[I", true)
def tyX8 : Nat → FieldType := fun k => match k with
  | 0 => .object "EmptyChairs$Scale"
  | 1 => .int
  | 2 => .int
  | _ => .array .int
abbrev wsX80 : List Cond := u_ws RX8 TX8 4
theorem nmX8 : ∀ a, a < 4 → ∀ b, b < 4 → a ≠ b → (TX8 a).2.1 ≠ (TX8 b).2.1 := by decide +kernel
theorem tyX8_ok : ∀ k, k < 4 → parseFieldDescriptor (TX8 k).2.2.1 = some (tyX8 k) := by decide +kernel
def RX9 : String := "EmptyChairs$Tape"
def TX9 : u_T := fun k => match k with
  | 0 => ("EmptyChairs$Tape", "length", "I", false)
  | 1 => ("EmptyChairs$Tape", "faultKind", "I", false)
  | 2 => ("EmptyChairs$Tape", "faultPlace", "I", false)
  | 3 => ("EmptyChairs$Tape", "key", "I", false)
  | 4 => ("EmptyChairs$Tape", "word", "J", false)
  | 5 => ("EmptyChairs$Tape", "taken", "I", false)
  | 6 => ("EmptyChairs$Tape", "compares", "I", false)
  | 7 => ("EmptyChairs$Tape", "bytes", "[B", true)
  | 8 => ("EmptyChairs$Tape", "keys", "[J", true)
  | 9 => ("EmptyChairs$Tape", "end", "I", false)
  | 10 => ("EmptyChairs$Tape", "place", "I", false)
  | 11 => ("EmptyChairs$Tape", "behind", "I", false)
  | 12 => ("EmptyChairs$Tape", "kind", "I", false)
  | _ => ("EmptyChairs$Tape", "value", "I", false)
def tyX9 : Nat → FieldType := fun k => match k with
  | 0 => .int
  | 1 => .int
  | 2 => .int
  | 3 => .int
  | 4 => .long
  | 5 => .int
  | 6 => .int
  | 7 => .array .byte
  | 8 => .array .long
  | 9 => .int
  | 10 => .int
  | 11 => .int
  | 12 => .int
  | _ => .int
abbrev wsX90 : List Cond := u_ws RX9 TX9 14
theorem nmX9 : ∀ a, a < 14 → ∀ b, b < 14 → a ≠ b → (TX9 a).2.1 ≠ (TX9 b).2.1 := by decide +kernel
theorem tyX9_ok : ∀ k, k < 14 → parseFieldDescriptor (TX9 k).2.2.1 = some (tyX9 k) := by decide +kernel
def RX10 : String := "EmptyChairs$Tray"
def TX10 : u_T := fun k => match k with
  | 0 => ("EmptyChairs$Tray", "sort", "I", false)
  | 1 => ("EmptyChairs$Tray", "length", "I", false)
  | _ => ("EmptyChairs$Tray", "numbers", "[J", true)
def tyX10 : Nat → FieldType := fun k => match k with
  | 0 => .int
  | 1 => .int
  | _ => .array .long
abbrev wsX100 : List Cond := u_ws RX10 TX10 3
theorem nmX10 : ∀ a, a < 3 → ∀ b, b < 3 → a ≠ b → (TX10 a).2.1 ≠ (TX10 b).2.1 := by decide +kernel
theorem tyX10_ok : ∀ k, k < 3 → parseFieldDescriptor (TX10 k).2.2.1 = some (tyX10 k) := by decide +kernel
def RX11 : String := "EmptyChairs"
def TX11 : u_T := fun k => match k with
  | 0 => ("EmptyChairs", "status", "I", false)
  | 1 => ("EmptyChairs", "top", "J", false)
  | 2 => ("EmptyChairs", "bottom", "J", false)
  | 3 => ("EmptyChairs", "trays", "[LEmptyChairs$Tray;", true)
  | 4 => ("EmptyChairs", "tape", "LEmptyChairs$Tape;", true)
  | 5 => ("EmptyChairs", "hall", "LEmptyChairs$Assembly;", true)
  | 6 => ("EmptyChairs", "spare", "LEmptyChairs$Assembly;", true)
  | 7 => ("EmptyChairs", "marks", "[LEmptyChairs$Assembly;", true)
  | 8 => ("EmptyChairs", "markCount", "I", false)
  | 9 => ("EmptyChairs", "scale", "LEmptyChairs$Scale;", true)
  | 10 => ("EmptyChairs", "strategy", "LEmptyChairs$Strategy;", true)
  | 11 => ("EmptyChairs", "tallies", "LEmptyChairs$Tallies;", true)
  | 12 => ("EmptyChairs", "assemblyParser", "LEmptyChairs$AssemblyParser;", true)
  | 13 => ("EmptyChairs", "scriptParser", "LEmptyChairs$ScriptParser;", true)
  | 14 => ("EmptyChairs", "runner", "LEmptyChairs$Runner;", true)
  | 15 => ("EmptyChairs", "hasLived", "Z", false)
  | 16 => ("EmptyChairs", "livedRow", "[I", true)
  | _ => ("EmptyChairs", "seekOrder", "[I", true)
def tyX11 : Nat → FieldType := fun k => match k with
  | 0 => .int
  | 1 => .long
  | 2 => .long
  | 3 => .array (.object "EmptyChairs$Tray")
  | 4 => .object "EmptyChairs$Tape"
  | 5 => .object "EmptyChairs$Assembly"
  | 6 => .object "EmptyChairs$Assembly"
  | 7 => .array (.object "EmptyChairs$Assembly")
  | 8 => .int
  | 9 => .object "EmptyChairs$Scale"
  | 10 => .object "EmptyChairs$Strategy"
  | 11 => .object "EmptyChairs$Tallies"
  | 12 => .object "EmptyChairs$AssemblyParser"
  | 13 => .object "EmptyChairs$ScriptParser"
  | 14 => .object "EmptyChairs$Runner"
  | 15 => .boolean
  | 16 => .array .int
  | _ => .array .int
abbrev wsX110 : List Cond := u_ws RX11 TX11 18
theorem nmX11 : ∀ a, a < 18 → ∀ b, b < 18 → a ≠ b → (TX11 a).2.1 ≠ (TX11 b).2.1 := by decide +kernel
theorem tyX11_ok : ∀ k, k < 18 → parseFieldDescriptor (TX11 k).2.2.1 = some (tyX11 k) := by decide +kernel
def RX12 : String := "EmptyChairsModel"
def TX12 : u_T := fun k => match k with
  | 0 => ("EmptyChairsModel", "status", "I", false)
  | 1 => ("EmptyChairsModel", "thrown", "I", false)
  | 2 => ("EmptyChairsModel", "above", "J", false)
  | 3 => ("EmptyChairsModel", "under", "J", false)
  | 4 => ("EmptyChairsModel", "traySort", "[I", true)
  | 5 => ("EmptyChairsModel", "trayMany", "[I", true)
  | 6 => ("EmptyChairsModel", "numbers", "[J", true)
  | 7 => ("EmptyChairsModel", "tape", "[B", true)
  | 8 => ("EmptyChairsModel", "taped", "I", false)
  | 9 => ("EmptyChairsModel", "textEnd", "I", false)
  | 10 => ("EmptyChairsModel", "faultKind", "I", false)
  | 11 => ("EmptyChairsModel", "faultAt", "I", false)
  | 12 => ("EmptyChairsModel", "bad", "I", false)
  | 13 => ("EmptyChairsModel", "badAt", "I", false)
  | 14 => ("EmptyChairsModel", "token", "I", false)
  | 15 => ("EmptyChairsModel", "at", "I", false)
  | 16 => ("EmptyChairsModel", "behind", "I", false)
  | 17 => ("EmptyChairsModel", "number", "I", false)
  | 18 => ("EmptyChairsModel", "letters", "I", false)
  | 19 => ("EmptyChairsModel", "word", "J", false)
  | 20 => ("EmptyChairsModel", "c", "[I", true)
  | 21 => ("EmptyChairsModel", "aside", "[I", true)
  | 22 => ("EmptyChairsModel", "before", "[I", true)
  | 23 => ("EmptyChairsModel", "words", "[J", true)
  | 24 => ("EmptyChairsModel", "markMany", "I", false)
  | 25 => ("EmptyChairsModel", "toldOnce", "I", false)
  | 26 => ("EmptyChairsModel", "newSteps", "I", false)
  | 27 => ("EmptyChairsModel", "firstMove", "I", false)
  | 28 => ("EmptyChairsModel", "wayMany", "I", false)
  | 29 => ("EmptyChairsModel", "sureOnes", "I", false)
  | 30 => ("EmptyChairsModel", "awayIn", "[I", true)
  | 31 => ("EmptyChairsModel", "order", "[I", true)
  | 32 => ("EmptyChairsModel", "livedLast", "[I", true)
  | 33 => ("EmptyChairsModel", "hasLived", "Z", false)
  | 34 => ("EmptyChairsModel", "isOver", "Z", false)
  | 35 => ("EmptyChairsModel", "random", "I", false)
  | 36 => ("EmptyChairsModel", "done", "I", false)
  | 37 => ("EmptyChairsModel", "missed", "I", false)
  | 38 => ("EmptyChairsModel", "minutes", "I", false)
  | 39 => ("EmptyChairsModel", "rang", "I", false)
  | 40 => ("EmptyChairsModel", "died", "I", false)
  | _ => ("EmptyChairsModel", "leftOver", "I", false)
def tyX12 : Nat → FieldType := fun k => match k with
  | 0 => .int
  | 1 => .int
  | 2 => .long
  | 3 => .long
  | 4 => .array .int
  | 5 => .array .int
  | 6 => .array .long
  | 7 => .array .byte
  | 8 => .int
  | 9 => .int
  | 10 => .int
  | 11 => .int
  | 12 => .int
  | 13 => .int
  | 14 => .int
  | 15 => .int
  | 16 => .int
  | 17 => .int
  | 18 => .int
  | 19 => .long
  | 20 => .array .int
  | 21 => .array .int
  | 22 => .array .int
  | 23 => .array .long
  | 24 => .int
  | 25 => .int
  | 26 => .int
  | 27 => .int
  | 28 => .int
  | 29 => .int
  | 30 => .array .int
  | 31 => .array .int
  | 32 => .array .int
  | 33 => .boolean
  | 34 => .boolean
  | 35 => .int
  | 36 => .int
  | 37 => .int
  | 38 => .int
  | 39 => .int
  | 40 => .int
  | _ => .int
abbrev wsX120 : List Cond := u_ws RX12 TX12 42
theorem nmX12 : ∀ a, a < 42 → ∀ b, b < 42 → a ≠ b → (TX12 a).2.1 ≠ (TX12 b).2.1 := by decide +kernel
theorem tyX12_ok : ∀ k, k < 42 → parseFieldDescriptor (TX12 k).2.2.1 = some (tyX12 k) := by decide +kernel
abbrev mcl : List vw_C := [(RX0, TX0, 16), (RX1, TX1, 6), (RX2, TX2, 10), (RX3, TX3, 6), (RX4, TX4, 9), (RX5, TX5, 8), (RX6, TX6, 5), (RX7, TX7, 6), (RX8, TX8, 4), (RX9, TX9, 14), (RX10, TX10, 3), (RX11, TX11, 18), (RX12, TX12, 42)]
def nfl (ci : Nat) : Nat := (mcl.map (fun q => q.2.2)).getD ci 0
def cnm : List String := ["EmptyChairs$Assembly", "EmptyChairs$AssemblyParser", "EmptyChairs$Member", "EmptyChairs$Runner", "EmptyChairs$Scale", "EmptyChairs$Script", "EmptyChairs$ScriptParser", "EmptyChairs$Strategy", "EmptyChairs$Tallies", "EmptyChairs$Tape", "EmptyChairs$Tray", "EmptyChairs", "EmptyChairsModel", "java/lang/Integer", "java/util/Arrays", "EmptyChairsLaw"]
def cN (oc : Nat) : String := cnm.getD oc ""
def ftT : List (List Nat) := [[3, 0, 3, 0, 0, 0, 0, 3, 3, 3, 3, 3, 3, 3, 3, 3], [3, 3, 0, 1, 0, 0], [1, 0, 0, 0, 0, 0, 0, 0, 4, 4], [3, 2, 0, 0, 4, 3], [2, 0, 0, 0, 0, 3, 0, 3, 3], [4, 0, 3, 3, 3, 3, 3, 3], [3, 3, 3, 3, 0], [3, 2, 0, 0, 0, 0], [3, 0, 0, 3], [0, 0, 0, 0, 1, 0, 0, 3, 3, 0, 0, 0, 0, 0], [0, 0, 3], [0, 1, 1, 3, 3, 3, 3, 3, 0, 3, 3, 3, 3, 3, 3, 4, 3, 3], [0, 0, 1, 1, 3, 3, 3, 3, 0, 0, 0, 0, 0, 0, 0, 0, 0, 0, 0, 1, 3, 3, 3, 3, 0, 0, 0, 0, 0, 0, 3, 3, 3, 4, 4, 0, 0, 0, 0, 0, 0, 0]]
def ftc (ci k : Nat) : Nat := (ftT.getD ci []).getD k 9
theorem mt1 : ∀ w ∈ tables_1_1, w ∈ lw_tbl := fun _ h => List.mem_append_right _ (List.mem_append_left _ h)
theorem mt2 : ∀ w ∈ tables_1_2, w ∈ lw_tbl := fun _ h => List.mem_append_right _ (List.mem_append_right _ (List.mem_append_left _ h))
theorem mt3 : ∀ w ∈ tables_1_3, w ∈ lw_tbl := fun _ h => List.mem_append_right _ (List.mem_append_right _ (List.mem_append_right _ (List.mem_append_left _ h)))
theorem mt4 : ∀ w ∈ tables_1_4, w ∈ lw_tbl := fun _ h => List.mem_append_right _ (List.mem_append_right _ (List.mem_append_right _ (List.mem_append_right _ (List.mem_append_left _ h))))
theorem mt5 : ∀ w ∈ tables_1_5, w ∈ lw_tbl := fun _ h => List.mem_append_right _ (List.mem_append_right _ (List.mem_append_right _ (List.mem_append_right _ (List.mem_append_right _ (List.mem_append_left _ h)))))
theorem mt6 : ∀ w ∈ tables_1_6, w ∈ lw_tbl := fun _ h => List.mem_append_right _ (List.mem_append_right _ (List.mem_append_right _ (List.mem_append_right _ (List.mem_append_right _ (List.mem_append_right _ (List.mem_append_left _ h))))))
theorem mt7 : ∀ w ∈ tables_1_7, w ∈ lw_tbl := fun _ h => List.mem_append_right _ (List.mem_append_right _ (List.mem_append_right _ (List.mem_append_right _ (List.mem_append_right _ (List.mem_append_right _ (List.mem_append_right _ (List.mem_append_left _ h)))))))
theorem mt8 : ∀ w ∈ tables_1_8, w ∈ lw_tbl := fun _ h => List.mem_append_right _ (List.mem_append_right _ (List.mem_append_right _ (List.mem_append_right _ (List.mem_append_right _ (List.mem_append_right _ (List.mem_append_right _ (List.mem_append_right _ (List.mem_append_left _ h))))))))
theorem mt9 : ∀ w ∈ tables_1_9, w ∈ lw_tbl := fun _ h => List.mem_append_right _ (List.mem_append_right _ (List.mem_append_right _ (List.mem_append_right _ (List.mem_append_right _ (List.mem_append_right _ (List.mem_append_right _ (List.mem_append_right _ (List.mem_append_right _ (List.mem_append_left _ h)))))))))
theorem mt10 : ∀ w ∈ tables_1_10, w ∈ lw_tbl := fun _ h => List.mem_append_right _ (List.mem_append_right _ (List.mem_append_right _ (List.mem_append_right _ (List.mem_append_right _ (List.mem_append_right _ (List.mem_append_right _ (List.mem_append_right _ (List.mem_append_right _ (List.mem_append_right _ (h))))))))))
theorem in_sel {q : MethodName × Nat} (h : q ∈ lw_privs) : Cond.selects q.1.cls q.1 q.1 ∈ lw_tbl := List.mem_append_left _ (List.mem_map.mpr ⟨q, h, rfl⟩)
theorem inX0 : ∀ w ∈ wsX00, w ∈ lw_tbl := by
  have h : wsX00 = [Cond.laysFinal "EmptyChairs$Assembly" "EmptyChairs$Assembly" "law" "[I", Cond.lays "EmptyChairs$Assembly" "EmptyChairs$Assembly" "minute" "I", Cond.laysFinal "EmptyChairs$Assembly" "EmptyChairs$Assembly" "rung" "[I", Cond.lays "EmptyChairs$Assembly" "EmptyChairs$Assembly" "parties" "I", Cond.lays "EmptyChairs$Assembly" "EmptyChairs$Assembly" "members" "I", Cond.lays "EmptyChairs$Assembly" "EmptyChairs$Assembly" "motions" "I", Cond.lays "EmptyChairs$Assembly" "EmptyChairs$Assembly" "rooms" "I", Cond.laysFinal "EmptyChairs$Assembly" "EmptyChairs$Assembly" "partyNames" "[J", Cond.laysFinal "EmptyChairs$Assembly" "EmptyChairs$Assembly" "memberAt" "[LEmptyChairs$Member;", Cond.laysFinal "EmptyChairs$Assembly" "EmptyChairs$Assembly" "motionNames" "[J", Cond.laysFinal "EmptyChairs$Assembly" "EmptyChairs$Assembly" "forSets" "[I", Cond.laysFinal "EmptyChairs$Assembly" "EmptyChairs$Assembly" "againstSets" "[I", Cond.laysFinal "EmptyChairs$Assembly" "EmptyChairs$Assembly" "roomNames" "[J", Cond.laysFinal "EmptyChairs$Assembly" "EmptyChairs$Assembly" "takes" "[I", Cond.laysFinal "EmptyChairs$Assembly" "EmptyChairs$Assembly" "odds" "[I", Cond.laysFinal "EmptyChairs$Assembly" "EmptyChairs$Assembly" "script" "LEmptyChairs$Script;"] := by decide +kernel
  rw [h]; exact List.forall_mem_cons.mpr ⟨(mt2 _ (List.mem_of_getElem? (i := 107) (by decide +kernel))), List.forall_mem_cons.mpr ⟨(mt2 _ (List.mem_of_getElem? (i := 109) (by decide +kernel))), List.forall_mem_cons.mpr ⟨(mt2 _ (List.mem_of_getElem? (i := 111) (by decide +kernel))), List.forall_mem_cons.mpr ⟨(mt2 _ (List.mem_of_getElem? (i := 113) (by decide +kernel))), List.forall_mem_cons.mpr ⟨(mt2 _ (List.mem_of_getElem? (i := 115) (by decide +kernel))), List.forall_mem_cons.mpr ⟨(mt2 _ (List.mem_of_getElem? (i := 117) (by decide +kernel))), List.forall_mem_cons.mpr ⟨(mt2 _ (List.mem_of_getElem? (i := 119) (by decide +kernel))), List.forall_mem_cons.mpr ⟨(mt2 _ (List.mem_of_getElem? (i := 121) (by decide +kernel))), List.forall_mem_cons.mpr ⟨(mt2 _ (List.mem_of_getElem? (i := 123) (by decide +kernel))), List.forall_mem_cons.mpr ⟨(mt2 _ (List.mem_of_getElem? (i := 125) (by decide +kernel))), List.forall_mem_cons.mpr ⟨(mt2 _ (List.mem_of_getElem? (i := 127) (by decide +kernel))), List.forall_mem_cons.mpr ⟨(mt2 _ (List.mem_of_getElem? (i := 129) (by decide +kernel))), List.forall_mem_cons.mpr ⟨(mt2 _ (List.mem_of_getElem? (i := 131) (by decide +kernel))), List.forall_mem_cons.mpr ⟨(mt2 _ (List.mem_of_getElem? (i := 133) (by decide +kernel))), List.forall_mem_cons.mpr ⟨(mt2 _ (List.mem_of_getElem? (i := 135) (by decide +kernel))), List.forall_mem_cons.mpr ⟨(mt2 _ (List.mem_of_getElem? (i := 137) (by decide +kernel))), fun _ h => absurd h List.not_mem_nil⟩⟩⟩⟩⟩⟩⟩⟩⟩⟩⟩⟩⟩⟩⟩⟩
theorem inX1 : ∀ w ∈ wsX10, w ∈ lw_tbl := by
  have h : wsX10 = [Cond.laysFinal "EmptyChairs$AssemblyParser" "EmptyChairs$AssemblyParser" "tape" "LEmptyChairs$Tape;", Cond.laysFinal "EmptyChairs$AssemblyParser" "EmptyChairs$AssemblyParser" "draft" "LEmptyChairs$Assembly;", Cond.lays "EmptyChairs$AssemblyParser" "EmptyChairs$AssemblyParser" "lawsTold" "I", Cond.lays "EmptyChairs$AssemblyParser" "EmptyChairs$AssemblyParser" "newName" "J", Cond.lays "EmptyChairs$AssemblyParser" "EmptyChairs$AssemblyParser" "found" "I", Cond.lays "EmptyChairs$AssemblyParser" "EmptyChairs$AssemblyParser" "set" "I"] := by decide +kernel
  rw [h]; exact List.forall_mem_cons.mpr ⟨(mt3 _ (List.mem_of_getElem? (i := 1) (by decide +kernel))), List.forall_mem_cons.mpr ⟨(mt3 _ (List.mem_of_getElem? (i := 3) (by decide +kernel))), List.forall_mem_cons.mpr ⟨(mt3 _ (List.mem_of_getElem? (i := 5) (by decide +kernel))), List.forall_mem_cons.mpr ⟨(mt3 _ (List.mem_of_getElem? (i := 7) (by decide +kernel))), List.forall_mem_cons.mpr ⟨(mt3 _ (List.mem_of_getElem? (i := 9) (by decide +kernel))), List.forall_mem_cons.mpr ⟨(mt3 _ (List.mem_of_getElem? (i := 11) (by decide +kernel))), fun _ h => absurd h List.not_mem_nil⟩⟩⟩⟩⟩⟩
theorem inX2 : ∀ w ∈ wsX20, w ∈ lw_tbl := by
  have h : wsX20 = [Cond.lays "EmptyChairs$Member" "EmptyChairs$Member" "name" "J", Cond.lays "EmptyChairs$Member" "EmptyChairs$Member" "party" "I", Cond.lays "EmptyChairs$Member" "EmptyChairs$Member" "yards" "I", Cond.lays "EmptyChairs$Member" "EmptyChairs$Member" "speed" "I", Cond.lays "EmptyChairs$Member" "EmptyChairs$Member" "price" "I", Cond.lays "EmptyChairs$Member" "EmptyChairs$Member" "way" "I", Cond.lays "EmptyChairs$Member" "EmptyChairs$Member" "yearsDead" "I", Cond.lays "EmptyChairs$Member" "EmptyChairs$Member" "twin" "I", Cond.lays "EmptyChairs$Member" "EmptyChairs$Member" "isSick" "Z", Cond.lays "EmptyChairs$Member" "EmptyChairs$Member" "isHidden" "Z"] := by decide +kernel
  rw [h]; exact List.forall_mem_cons.mpr ⟨(mt2 _ (List.mem_of_getElem? (i := 24) (by decide +kernel))), List.forall_mem_cons.mpr ⟨(mt2 _ (List.mem_of_getElem? (i := 26) (by decide +kernel))), List.forall_mem_cons.mpr ⟨(mt2 _ (List.mem_of_getElem? (i := 28) (by decide +kernel))), List.forall_mem_cons.mpr ⟨(mt2 _ (List.mem_of_getElem? (i := 30) (by decide +kernel))), List.forall_mem_cons.mpr ⟨(mt2 _ (List.mem_of_getElem? (i := 32) (by decide +kernel))), List.forall_mem_cons.mpr ⟨(mt2 _ (List.mem_of_getElem? (i := 34) (by decide +kernel))), List.forall_mem_cons.mpr ⟨(mt2 _ (List.mem_of_getElem? (i := 36) (by decide +kernel))), List.forall_mem_cons.mpr ⟨(mt2 _ (List.mem_of_getElem? (i := 38) (by decide +kernel))), List.forall_mem_cons.mpr ⟨(mt2 _ (List.mem_of_getElem? (i := 40) (by decide +kernel))), List.forall_mem_cons.mpr ⟨(mt2 _ (List.mem_of_getElem? (i := 42) (by decide +kernel))), fun _ h => absurd h List.not_mem_nil⟩⟩⟩⟩⟩⟩⟩⟩⟩⟩
theorem inX3 : ∀ w ∈ wsX30, w ∈ lw_tbl := by
  have h : wsX30 = [Cond.laysFinal "EmptyChairs$Runner" "EmptyChairs$Runner" "scale" "LEmptyChairs$Scale;", Cond.lays "EmptyChairs$Runner" "EmptyChairs$Runner" "hall" "LEmptyChairs$Assembly;", Cond.lays "EmptyChairs$Runner" "EmptyChairs$Runner" "draws" "I", Cond.lays "EmptyChairs$Runner" "EmptyChairs$Runner" "stepsDone" "I", Cond.lays "EmptyChairs$Runner" "EmptyChairs$Runner" "isHalted" "Z", Cond.laysFinal "EmptyChairs$Runner" "EmptyChairs$Runner" "told" "[I"] := by decide +kernel
  rw [h]; exact List.forall_mem_cons.mpr ⟨(mt3 _ (List.mem_of_getElem? (i := 52) (by decide +kernel))), List.forall_mem_cons.mpr ⟨(mt3 _ (List.mem_of_getElem? (i := 54) (by decide +kernel))), List.forall_mem_cons.mpr ⟨(mt3 _ (List.mem_of_getElem? (i := 56) (by decide +kernel))), List.forall_mem_cons.mpr ⟨(mt3 _ (List.mem_of_getElem? (i := 58) (by decide +kernel))), List.forall_mem_cons.mpr ⟨(mt3 _ (List.mem_of_getElem? (i := 60) (by decide +kernel))), List.forall_mem_cons.mpr ⟨(mt3 _ (List.mem_of_getElem? (i := 62) (by decide +kernel))), fun _ h => absurd h List.not_mem_nil⟩⟩⟩⟩⟩⟩
theorem inX4 : ∀ w ∈ wsX40, w ∈ lw_tbl := by
  have h : wsX40 = [Cond.lays "EmptyChairs$Scale" "EmptyChairs$Scale" "hall" "LEmptyChairs$Assembly;", Cond.lays "EmptyChairs$Scale" "EmptyChairs$Scale" "far" "I", Cond.lays "EmptyChairs$Scale" "EmptyChairs$Scale" "buried" "I", Cond.lays "EmptyChairs$Scale" "EmptyChairs$Scale" "ill" "I", Cond.lays "EmptyChairs$Scale" "EmptyChairs$Scale" "walkers" "I", Cond.laysFinal "EmptyChairs$Scale" "EmptyChairs$Scale" "at" "[I", Cond.lays "EmptyChairs$Scale" "EmptyChairs$Scale" "inSet" "I", Cond.laysFinal "EmptyChairs$Scale" "EmptyChairs$Scale" "weights" "[I", Cond.laysFinal "EmptyChairs$Scale" "EmptyChairs$Scale" "powers" "[I"] := by decide +kernel
  rw [h]; exact List.forall_mem_cons.mpr ⟨(mt2 _ (List.mem_of_getElem? (i := 163) (by decide +kernel))), List.forall_mem_cons.mpr ⟨(mt2 _ (List.mem_of_getElem? (i := 165) (by decide +kernel))), List.forall_mem_cons.mpr ⟨(mt2 _ (List.mem_of_getElem? (i := 167) (by decide +kernel))), List.forall_mem_cons.mpr ⟨(mt2 _ (List.mem_of_getElem? (i := 169) (by decide +kernel))), List.forall_mem_cons.mpr ⟨(mt2 _ (List.mem_of_getElem? (i := 171) (by decide +kernel))), List.forall_mem_cons.mpr ⟨(mt2 _ (List.mem_of_getElem? (i := 173) (by decide +kernel))), List.forall_mem_cons.mpr ⟨(mt2 _ (List.mem_of_getElem? (i := 175) (by decide +kernel))), List.forall_mem_cons.mpr ⟨(mt2 _ (List.mem_of_getElem? (i := 177) (by decide +kernel))), List.forall_mem_cons.mpr ⟨(mt2 _ (List.mem_of_getElem? (i := 179) (by decide +kernel))), fun _ h => absurd h List.not_mem_nil⟩⟩⟩⟩⟩⟩⟩⟩⟩
theorem inX5 : ∀ w ∈ wsX50, w ∈ lw_tbl := by
  have h : wsX50 = [Cond.lays "EmptyChairs$Script" "EmptyChairs$Script" "isThere" "Z", Cond.lays "EmptyChairs$Script" "EmptyChairs$Script" "steps" "I", Cond.laysFinal "EmptyChairs$Script" "EmptyChairs$Script" "kind" "[I", Cond.laysFinal "EmptyChairs$Script" "EmptyChairs$Script" "test" "[I", Cond.laysFinal "EmptyChairs$Script" "EmptyChairs$Script" "subject" "[I", Cond.laysFinal "EmptyChairs$Script" "EmptyChairs$Script" "compares" "[I", Cond.laysFinal "EmptyChairs$Script" "EmptyChairs$Script" "number" "[I", Cond.laysFinal "EmptyChairs$Script" "EmptyChairs$Script" "next" "[I"] := by decide +kernel
  rw [h]; exact List.forall_mem_cons.mpr ⟨(mt1 _ (List.mem_of_getElem? (i := 201) (by decide +kernel))), List.forall_mem_cons.mpr ⟨(mt1 _ (List.mem_of_getElem? (i := 203) (by decide +kernel))), List.forall_mem_cons.mpr ⟨(mt1 _ (List.mem_of_getElem? (i := 205) (by decide +kernel))), List.forall_mem_cons.mpr ⟨(mt1 _ (List.mem_of_getElem? (i := 207) (by decide +kernel))), List.forall_mem_cons.mpr ⟨(mt1 _ (List.mem_of_getElem? (i := 209) (by decide +kernel))), List.forall_mem_cons.mpr ⟨(mt1 _ (List.mem_of_getElem? (i := 211) (by decide +kernel))), List.forall_mem_cons.mpr ⟨(mt1 _ (List.mem_of_getElem? (i := 213) (by decide +kernel))), List.forall_mem_cons.mpr ⟨(mt1 _ (List.mem_of_getElem? (i := 215) (by decide +kernel))), fun _ h => absurd h List.not_mem_nil⟩⟩⟩⟩⟩⟩⟩⟩
theorem inX6 : ∀ w ∈ wsX60, w ∈ lw_tbl := by
  have h : wsX60 = [Cond.laysFinal "EmptyChairs$ScriptParser" "EmptyChairs$ScriptParser" "draft" "LEmptyChairs$Script;", Cond.laysFinal "EmptyChairs$ScriptParser" "EmptyChairs$ScriptParser" "tape" "LEmptyChairs$Tape;", Cond.laysFinal "EmptyChairs$ScriptParser" "EmptyChairs$ScriptParser" "hall" "LEmptyChairs$Assembly;", Cond.laysFinal "EmptyChairs$ScriptParser" "EmptyChairs$ScriptParser" "open" "[I", Cond.lays "EmptyChairs$ScriptParser" "EmptyChairs$ScriptParser" "depth" "I"] := by decide +kernel
  rw [h]; exact List.forall_mem_cons.mpr ⟨(mt3 _ (List.mem_of_getElem? (i := 28) (by decide +kernel))), List.forall_mem_cons.mpr ⟨(mt3 _ (List.mem_of_getElem? (i := 30) (by decide +kernel))), List.forall_mem_cons.mpr ⟨(mt3 _ (List.mem_of_getElem? (i := 32) (by decide +kernel))), List.forall_mem_cons.mpr ⟨(mt3 _ (List.mem_of_getElem? (i := 34) (by decide +kernel))), List.forall_mem_cons.mpr ⟨(mt3 _ (List.mem_of_getElem? (i := 36) (by decide +kernel))), fun _ h => absurd h List.not_mem_nil⟩⟩⟩⟩⟩
theorem inX7 : ∀ w ∈ wsX70, w ∈ lw_tbl := by
  have h : wsX70 = [Cond.laysFinal "EmptyChairs$Strategy" "EmptyChairs$Strategy" "scale" "LEmptyChairs$Scale;", Cond.lays "EmptyChairs$Strategy" "EmptyChairs$Strategy" "hall" "LEmptyChairs$Assembly;", Cond.lays "EmptyChairs$Strategy" "EmptyChairs$Strategy" "first" "I", Cond.lays "EmptyChairs$Strategy" "EmptyChairs$Strategy" "second" "I", Cond.lays "EmptyChairs$Strategy" "EmptyChairs$Strategy" "turns" "I", Cond.lays "EmptyChairs$Strategy" "EmptyChairs$Strategy" "opening" "I"] := by decide +kernel
  rw [h]; exact List.forall_mem_cons.mpr ⟨(mt2 _ (List.mem_of_getElem? (i := 195) (by decide +kernel))), List.forall_mem_cons.mpr ⟨(mt2 _ (List.mem_of_getElem? (i := 197) (by decide +kernel))), List.forall_mem_cons.mpr ⟨(mt2 _ (List.mem_of_getElem? (i := 199) (by decide +kernel))), List.forall_mem_cons.mpr ⟨(mt2 _ (List.mem_of_getElem? (i := 201) (by decide +kernel))), List.forall_mem_cons.mpr ⟨(mt2 _ (List.mem_of_getElem? (i := 203) (by decide +kernel))), List.forall_mem_cons.mpr ⟨(mt2 _ (List.mem_of_getElem? (i := 205) (by decide +kernel))), fun _ h => absurd h List.not_mem_nil⟩⟩⟩⟩⟩⟩
theorem inX8 : ∀ w ∈ wsX80, w ∈ lw_tbl := by
  have h : wsX80 = [Cond.laysFinal "EmptyChairs$Tallies" "EmptyChairs$Tallies" "scale" "LEmptyChairs$Scale;", Cond.lays "EmptyChairs$Tallies" "EmptyChairs$Tallies" "ways" "I", Cond.lays "EmptyChairs$Tallies" "EmptyChairs$Tallies" "alwaysAway" "I", Cond.laysFinal "EmptyChairs$Tallies" "EmptyChairs$Tallies" "waysAway" "[I"] := by decide +kernel
  rw [h]; exact List.forall_mem_cons.mpr ⟨(mt2 _ (List.mem_of_getElem? (i := 220) (by decide +kernel))), List.forall_mem_cons.mpr ⟨(mt2 _ (List.mem_of_getElem? (i := 222) (by decide +kernel))), List.forall_mem_cons.mpr ⟨(mt2 _ (List.mem_of_getElem? (i := 224) (by decide +kernel))), List.forall_mem_cons.mpr ⟨(mt2 _ (List.mem_of_getElem? (i := 226) (by decide +kernel))), fun _ h => absurd h List.not_mem_nil⟩⟩⟩⟩
theorem inX9 : ∀ w ∈ wsX90, w ∈ lw_tbl := by
  have h : wsX90 = [Cond.lays "EmptyChairs$Tape" "EmptyChairs$Tape" "length" "I", Cond.lays "EmptyChairs$Tape" "EmptyChairs$Tape" "faultKind" "I", Cond.lays "EmptyChairs$Tape" "EmptyChairs$Tape" "faultPlace" "I", Cond.lays "EmptyChairs$Tape" "EmptyChairs$Tape" "key" "I", Cond.lays "EmptyChairs$Tape" "EmptyChairs$Tape" "word" "J", Cond.lays "EmptyChairs$Tape" "EmptyChairs$Tape" "taken" "I", Cond.lays "EmptyChairs$Tape" "EmptyChairs$Tape" "compares" "I", Cond.laysFinal "EmptyChairs$Tape" "EmptyChairs$Tape" "bytes" "[B", Cond.laysFinal "EmptyChairs$Tape" "EmptyChairs$Tape" "keys" "[J", Cond.lays "EmptyChairs$Tape" "EmptyChairs$Tape" "end" "I", Cond.lays "EmptyChairs$Tape" "EmptyChairs$Tape" "place" "I", Cond.lays "EmptyChairs$Tape" "EmptyChairs$Tape" "behind" "I", Cond.lays "EmptyChairs$Tape" "EmptyChairs$Tape" "kind" "I", Cond.lays "EmptyChairs$Tape" "EmptyChairs$Tape" "value" "I"] := by decide +kernel
  rw [h]; exact List.forall_mem_cons.mpr ⟨(mt1 _ (List.mem_of_getElem? (i := 132) (by decide +kernel))), List.forall_mem_cons.mpr ⟨(mt1 _ (List.mem_of_getElem? (i := 134) (by decide +kernel))), List.forall_mem_cons.mpr ⟨(mt1 _ (List.mem_of_getElem? (i := 136) (by decide +kernel))), List.forall_mem_cons.mpr ⟨(mt1 _ (List.mem_of_getElem? (i := 138) (by decide +kernel))), List.forall_mem_cons.mpr ⟨(mt1 _ (List.mem_of_getElem? (i := 140) (by decide +kernel))), List.forall_mem_cons.mpr ⟨(mt1 _ (List.mem_of_getElem? (i := 142) (by decide +kernel))), List.forall_mem_cons.mpr ⟨(mt1 _ (List.mem_of_getElem? (i := 144) (by decide +kernel))), List.forall_mem_cons.mpr ⟨(mt1 _ (List.mem_of_getElem? (i := 146) (by decide +kernel))), List.forall_mem_cons.mpr ⟨(mt1 _ (List.mem_of_getElem? (i := 148) (by decide +kernel))), List.forall_mem_cons.mpr ⟨(mt1 _ (List.mem_of_getElem? (i := 150) (by decide +kernel))), List.forall_mem_cons.mpr ⟨(mt1 _ (List.mem_of_getElem? (i := 152) (by decide +kernel))), List.forall_mem_cons.mpr ⟨(mt1 _ (List.mem_of_getElem? (i := 154) (by decide +kernel))), List.forall_mem_cons.mpr ⟨(mt1 _ (List.mem_of_getElem? (i := 156) (by decide +kernel))), List.forall_mem_cons.mpr ⟨(mt1 _ (List.mem_of_getElem? (i := 158) (by decide +kernel))), fun _ h => absurd h List.not_mem_nil⟩⟩⟩⟩⟩⟩⟩⟩⟩⟩⟩⟩⟩⟩
theorem inX10 : ∀ w ∈ wsX100, w ∈ lw_tbl := by
  have h : wsX100 = [Cond.lays "EmptyChairs$Tray" "EmptyChairs$Tray" "sort" "I", Cond.lays "EmptyChairs$Tray" "EmptyChairs$Tray" "length" "I", Cond.laysFinal "EmptyChairs$Tray" "EmptyChairs$Tray" "numbers" "[J"] := by decide +kernel
  rw [h]; exact List.forall_mem_cons.mpr ⟨(mt1 _ (List.mem_of_getElem? (i := 44) (by decide +kernel))), List.forall_mem_cons.mpr ⟨(mt1 _ (List.mem_of_getElem? (i := 46) (by decide +kernel))), List.forall_mem_cons.mpr ⟨(mt1 _ (List.mem_of_getElem? (i := 48) (by decide +kernel))), fun _ h => absurd h List.not_mem_nil⟩⟩⟩
theorem inX11 : ∀ w ∈ wsX110, w ∈ lw_tbl := by
  have h : wsX110 = [Cond.lays "EmptyChairs" "EmptyChairs" "status" "I", Cond.lays "EmptyChairs" "EmptyChairs" "top" "J", Cond.lays "EmptyChairs" "EmptyChairs" "bottom" "J", Cond.laysFinal "EmptyChairs" "EmptyChairs" "trays" "[LEmptyChairs$Tray;", Cond.laysFinal "EmptyChairs" "EmptyChairs" "tape" "LEmptyChairs$Tape;", Cond.laysFinal "EmptyChairs" "EmptyChairs" "hall" "LEmptyChairs$Assembly;", Cond.laysFinal "EmptyChairs" "EmptyChairs" "spare" "LEmptyChairs$Assembly;", Cond.laysFinal "EmptyChairs" "EmptyChairs" "marks" "[LEmptyChairs$Assembly;", Cond.lays "EmptyChairs" "EmptyChairs" "markCount" "I", Cond.laysFinal "EmptyChairs" "EmptyChairs" "scale" "LEmptyChairs$Scale;", Cond.laysFinal "EmptyChairs" "EmptyChairs" "strategy" "LEmptyChairs$Strategy;", Cond.laysFinal "EmptyChairs" "EmptyChairs" "tallies" "LEmptyChairs$Tallies;", Cond.laysFinal "EmptyChairs" "EmptyChairs" "assemblyParser" "LEmptyChairs$AssemblyParser;", Cond.laysFinal "EmptyChairs" "EmptyChairs" "scriptParser" "LEmptyChairs$ScriptParser;", Cond.laysFinal "EmptyChairs" "EmptyChairs" "runner" "LEmptyChairs$Runner;", Cond.lays "EmptyChairs" "EmptyChairs" "hasLived" "Z", Cond.laysFinal "EmptyChairs" "EmptyChairs" "livedRow" "[I", Cond.laysFinal "EmptyChairs" "EmptyChairs" "seekOrder" "[I"] := by decide +kernel
  rw [h]; exact List.forall_mem_cons.mpr ⟨(mt3 _ (List.mem_of_getElem? (i := 83) (by decide +kernel))), List.forall_mem_cons.mpr ⟨(mt3 _ (List.mem_of_getElem? (i := 85) (by decide +kernel))), List.forall_mem_cons.mpr ⟨(mt3 _ (List.mem_of_getElem? (i := 87) (by decide +kernel))), List.forall_mem_cons.mpr ⟨(mt3 _ (List.mem_of_getElem? (i := 89) (by decide +kernel))), List.forall_mem_cons.mpr ⟨(mt3 _ (List.mem_of_getElem? (i := 91) (by decide +kernel))), List.forall_mem_cons.mpr ⟨(mt3 _ (List.mem_of_getElem? (i := 93) (by decide +kernel))), List.forall_mem_cons.mpr ⟨(mt3 _ (List.mem_of_getElem? (i := 95) (by decide +kernel))), List.forall_mem_cons.mpr ⟨(mt3 _ (List.mem_of_getElem? (i := 97) (by decide +kernel))), List.forall_mem_cons.mpr ⟨(mt3 _ (List.mem_of_getElem? (i := 99) (by decide +kernel))), List.forall_mem_cons.mpr ⟨(mt3 _ (List.mem_of_getElem? (i := 101) (by decide +kernel))), List.forall_mem_cons.mpr ⟨(mt3 _ (List.mem_of_getElem? (i := 103) (by decide +kernel))), List.forall_mem_cons.mpr ⟨(mt3 _ (List.mem_of_getElem? (i := 105) (by decide +kernel))), List.forall_mem_cons.mpr ⟨(mt3 _ (List.mem_of_getElem? (i := 107) (by decide +kernel))), List.forall_mem_cons.mpr ⟨(mt3 _ (List.mem_of_getElem? (i := 109) (by decide +kernel))), List.forall_mem_cons.mpr ⟨(mt3 _ (List.mem_of_getElem? (i := 111) (by decide +kernel))), List.forall_mem_cons.mpr ⟨(mt3 _ (List.mem_of_getElem? (i := 113) (by decide +kernel))), List.forall_mem_cons.mpr ⟨(mt3 _ (List.mem_of_getElem? (i := 115) (by decide +kernel))), List.forall_mem_cons.mpr ⟨(mt3 _ (List.mem_of_getElem? (i := 117) (by decide +kernel))), fun _ h => absurd h List.not_mem_nil⟩⟩⟩⟩⟩⟩⟩⟩⟩⟩⟩⟩⟩⟩⟩⟩⟩⟩
theorem inX12 : ∀ w ∈ wsX120, w ∈ lw_tbl := by
  have h : wsX120 = [Cond.lays "EmptyChairsModel" "EmptyChairsModel" "status" "I", Cond.lays "EmptyChairsModel" "EmptyChairsModel" "thrown" "I", Cond.lays "EmptyChairsModel" "EmptyChairsModel" "above" "J", Cond.lays "EmptyChairsModel" "EmptyChairsModel" "under" "J", Cond.laysFinal "EmptyChairsModel" "EmptyChairsModel" "traySort" "[I", Cond.laysFinal "EmptyChairsModel" "EmptyChairsModel" "trayMany" "[I", Cond.laysFinal "EmptyChairsModel" "EmptyChairsModel" "numbers" "[J", Cond.laysFinal "EmptyChairsModel" "EmptyChairsModel" "tape" "[B", Cond.lays "EmptyChairsModel" "EmptyChairsModel" "taped" "I", Cond.lays "EmptyChairsModel" "EmptyChairsModel" "textEnd" "I", Cond.lays "EmptyChairsModel" "EmptyChairsModel" "faultKind" "I", Cond.lays "EmptyChairsModel" "EmptyChairsModel" "faultAt" "I", Cond.lays "EmptyChairsModel" "EmptyChairsModel" "bad" "I", Cond.lays "EmptyChairsModel" "EmptyChairsModel" "badAt" "I", Cond.lays "EmptyChairsModel" "EmptyChairsModel" "token" "I", Cond.lays "EmptyChairsModel" "EmptyChairsModel" "at" "I", Cond.lays "EmptyChairsModel" "EmptyChairsModel" "behind" "I", Cond.lays "EmptyChairsModel" "EmptyChairsModel" "number" "I", Cond.lays "EmptyChairsModel" "EmptyChairsModel" "letters" "I", Cond.lays "EmptyChairsModel" "EmptyChairsModel" "word" "J", Cond.laysFinal "EmptyChairsModel" "EmptyChairsModel" "c" "[I", Cond.laysFinal "EmptyChairsModel" "EmptyChairsModel" "aside" "[I", Cond.laysFinal "EmptyChairsModel" "EmptyChairsModel" "before" "[I", Cond.laysFinal "EmptyChairsModel" "EmptyChairsModel" "words" "[J", Cond.lays "EmptyChairsModel" "EmptyChairsModel" "markMany" "I", Cond.lays "EmptyChairsModel" "EmptyChairsModel" "toldOnce" "I", Cond.lays "EmptyChairsModel" "EmptyChairsModel" "newSteps" "I", Cond.lays "EmptyChairsModel" "EmptyChairsModel" "firstMove" "I", Cond.lays "EmptyChairsModel" "EmptyChairsModel" "wayMany" "I", Cond.lays "EmptyChairsModel" "EmptyChairsModel" "sureOnes" "I", Cond.laysFinal "EmptyChairsModel" "EmptyChairsModel" "awayIn" "[I", Cond.laysFinal "EmptyChairsModel" "EmptyChairsModel" "order" "[I", Cond.laysFinal "EmptyChairsModel" "EmptyChairsModel" "livedLast" "[I", Cond.lays "EmptyChairsModel" "EmptyChairsModel" "hasLived" "Z", Cond.lays "EmptyChairsModel" "EmptyChairsModel" "isOver" "Z", Cond.lays "EmptyChairsModel" "EmptyChairsModel" "random" "I", Cond.lays "EmptyChairsModel" "EmptyChairsModel" "done" "I", Cond.lays "EmptyChairsModel" "EmptyChairsModel" "missed" "I", Cond.lays "EmptyChairsModel" "EmptyChairsModel" "minutes" "I", Cond.lays "EmptyChairsModel" "EmptyChairsModel" "rang" "I", Cond.lays "EmptyChairsModel" "EmptyChairsModel" "died" "I", Cond.lays "EmptyChairsModel" "EmptyChairsModel" "leftOver" "I"] := by decide +kernel
  rw [h]; exact List.forall_mem_cons.mpr ⟨(mt6 _ (List.mem_of_getElem? (i := 236) (by decide +kernel))), List.forall_mem_cons.mpr ⟨(mt6 _ (List.mem_of_getElem? (i := 238) (by decide +kernel))), List.forall_mem_cons.mpr ⟨(mt7 _ (List.mem_of_getElem? (i := 0) (by decide +kernel))), List.forall_mem_cons.mpr ⟨(mt7 _ (List.mem_of_getElem? (i := 2) (by decide +kernel))), List.forall_mem_cons.mpr ⟨(mt7 _ (List.mem_of_getElem? (i := 4) (by decide +kernel))), List.forall_mem_cons.mpr ⟨(mt7 _ (List.mem_of_getElem? (i := 6) (by decide +kernel))), List.forall_mem_cons.mpr ⟨(mt7 _ (List.mem_of_getElem? (i := 8) (by decide +kernel))), List.forall_mem_cons.mpr ⟨(mt7 _ (List.mem_of_getElem? (i := 10) (by decide +kernel))), List.forall_mem_cons.mpr ⟨(mt7 _ (List.mem_of_getElem? (i := 12) (by decide +kernel))), List.forall_mem_cons.mpr ⟨(mt7 _ (List.mem_of_getElem? (i := 14) (by decide +kernel))), List.forall_mem_cons.mpr ⟨(mt7 _ (List.mem_of_getElem? (i := 16) (by decide +kernel))), List.forall_mem_cons.mpr ⟨(mt7 _ (List.mem_of_getElem? (i := 18) (by decide +kernel))), List.forall_mem_cons.mpr ⟨(mt7 _ (List.mem_of_getElem? (i := 20) (by decide +kernel))), List.forall_mem_cons.mpr ⟨(mt7 _ (List.mem_of_getElem? (i := 22) (by decide +kernel))), List.forall_mem_cons.mpr ⟨(mt7 _ (List.mem_of_getElem? (i := 24) (by decide +kernel))), List.forall_mem_cons.mpr ⟨(mt7 _ (List.mem_of_getElem? (i := 26) (by decide +kernel))), List.forall_mem_cons.mpr ⟨(mt7 _ (List.mem_of_getElem? (i := 28) (by decide +kernel))), List.forall_mem_cons.mpr ⟨(mt7 _ (List.mem_of_getElem? (i := 30) (by decide +kernel))), List.forall_mem_cons.mpr ⟨(mt7 _ (List.mem_of_getElem? (i := 32) (by decide +kernel))), List.forall_mem_cons.mpr ⟨(mt7 _ (List.mem_of_getElem? (i := 34) (by decide +kernel))), List.forall_mem_cons.mpr ⟨(mt7 _ (List.mem_of_getElem? (i := 36) (by decide +kernel))), List.forall_mem_cons.mpr ⟨(mt7 _ (List.mem_of_getElem? (i := 38) (by decide +kernel))), List.forall_mem_cons.mpr ⟨(mt7 _ (List.mem_of_getElem? (i := 40) (by decide +kernel))), List.forall_mem_cons.mpr ⟨(mt7 _ (List.mem_of_getElem? (i := 42) (by decide +kernel))), List.forall_mem_cons.mpr ⟨(mt7 _ (List.mem_of_getElem? (i := 44) (by decide +kernel))), List.forall_mem_cons.mpr ⟨(mt7 _ (List.mem_of_getElem? (i := 46) (by decide +kernel))), List.forall_mem_cons.mpr ⟨(mt7 _ (List.mem_of_getElem? (i := 48) (by decide +kernel))), List.forall_mem_cons.mpr ⟨(mt7 _ (List.mem_of_getElem? (i := 50) (by decide +kernel))), List.forall_mem_cons.mpr ⟨(mt7 _ (List.mem_of_getElem? (i := 52) (by decide +kernel))), List.forall_mem_cons.mpr ⟨(mt7 _ (List.mem_of_getElem? (i := 54) (by decide +kernel))), List.forall_mem_cons.mpr ⟨(mt7 _ (List.mem_of_getElem? (i := 56) (by decide +kernel))), List.forall_mem_cons.mpr ⟨(mt7 _ (List.mem_of_getElem? (i := 58) (by decide +kernel))), List.forall_mem_cons.mpr ⟨(mt7 _ (List.mem_of_getElem? (i := 60) (by decide +kernel))), List.forall_mem_cons.mpr ⟨(mt7 _ (List.mem_of_getElem? (i := 62) (by decide +kernel))), List.forall_mem_cons.mpr ⟨(mt7 _ (List.mem_of_getElem? (i := 64) (by decide +kernel))), List.forall_mem_cons.mpr ⟨(mt7 _ (List.mem_of_getElem? (i := 66) (by decide +kernel))), List.forall_mem_cons.mpr ⟨(mt7 _ (List.mem_of_getElem? (i := 68) (by decide +kernel))), List.forall_mem_cons.mpr ⟨(mt7 _ (List.mem_of_getElem? (i := 70) (by decide +kernel))), List.forall_mem_cons.mpr ⟨(mt7 _ (List.mem_of_getElem? (i := 72) (by decide +kernel))), List.forall_mem_cons.mpr ⟨(mt7 _ (List.mem_of_getElem? (i := 74) (by decide +kernel))), List.forall_mem_cons.mpr ⟨(mt7 _ (List.mem_of_getElem? (i := 76) (by decide +kernel))), List.forall_mem_cons.mpr ⟨(mt7 _ (List.mem_of_getElem? (i := 78) (by decide +kernel))), fun _ h => absurd h List.not_mem_nil⟩⟩⟩⟩⟩⟩⟩⟩⟩⟩⟩⟩⟩⟩⟩⟩⟩⟩⟩⟩⟩⟩⟩⟩⟩⟩⟩⟩⟩⟩⟩⟩⟩⟩⟩⟩⟩⟩⟩⟩⟩⟩
def FLok (oc idx ci k : Nat) : Prop := ∃ r : vw_C, mcl[ci]? = some r ∧ k < r.2.2 ∧ Cond.fieldLink (cN oc) idx r.1 (r.2.1 k).2.1 (r.2.1 k).2.2.1 ∈ lw_tbl
def fl0 : List (Nat × Nat × Nat) := [(99, 2, 0), (128, 2, 4), (117, 2, 8), (9, 0, 0), (69, 0, 1), (15, 0, 2), (73, 0, 3), (76, 0, 4), (79, 0, 5), (82, 0, 6), (18, 0, 7), (24, 0, 8), (28, 0, 9), (31, 0, 10), (34, 0, 11), (37, 0, 12), (40, 0, 13), (43, 0, 14), (49, 0, 15)]
theorem fl0_0 : (fun q : (Nat × Nat × Nat) => FLok 0 q.1 q.2.1 q.2.2) (99, 2, 0) := ⟨_, rfl, by decide, (mt1 _ (List.mem_of_getElem? (i := 226) (by decide +kernel)))⟩
theorem fl0_1 : (fun q : (Nat × Nat × Nat) => FLok 0 q.1 q.2.1 q.2.2) (128, 2, 4) := ⟨_, rfl, by decide, (mt2 _ (List.mem_of_getElem? (i := 1) (by decide +kernel)))⟩
theorem fl0_2 : (fun q : (Nat × Nat × Nat) => FLok 0 q.1 q.2.1 q.2.2) (117, 2, 8) := ⟨_, rfl, by decide, (mt2 _ (List.mem_of_getElem? (i := 18) (by decide +kernel)))⟩
theorem fl0_3 : (fun q : (Nat × Nat × Nat) => FLok 0 q.1 q.2.1 q.2.2) (9, 0, 0) := ⟨_, rfl, by decide, (mt2 _ (List.mem_of_getElem? (i := 50) (by decide +kernel)))⟩
theorem fl0_4 : (fun q : (Nat × Nat × Nat) => FLok 0 q.1 q.2.1 q.2.2) (69, 0, 1) := ⟨_, rfl, by decide, (mt2 _ (List.mem_of_getElem? (i := 54) (by decide +kernel)))⟩
theorem fl0_5 : (fun q : (Nat × Nat × Nat) => FLok 0 q.1 q.2.1 q.2.2) (15, 0, 2) := ⟨_, rfl, by decide, (mt2 _ (List.mem_of_getElem? (i := 57) (by decide +kernel)))⟩
theorem fl0_6 : (fun q : (Nat × Nat × Nat) => FLok 0 q.1 q.2.1 q.2.2) (73, 0, 3) := ⟨_, rfl, by decide, (mt2 _ (List.mem_of_getElem? (i := 59) (by decide +kernel)))⟩
theorem fl0_7 : (fun q : (Nat × Nat × Nat) => FLok 0 q.1 q.2.1 q.2.2) (76, 0, 4) := ⟨_, rfl, by decide, (mt2 _ (List.mem_of_getElem? (i := 65) (by decide +kernel)))⟩
theorem fl0_8 : (fun q : (Nat × Nat × Nat) => FLok 0 q.1 q.2.1 q.2.2) (79, 0, 5) := ⟨_, rfl, by decide, (mt2 _ (List.mem_of_getElem? (i := 71) (by decide +kernel)))⟩
theorem fl0_9 : (fun q : (Nat × Nat × Nat) => FLok 0 q.1 q.2.1 q.2.2) (82, 0, 6) := ⟨_, rfl, by decide, (mt2 _ (List.mem_of_getElem? (i := 75) (by decide +kernel)))⟩
theorem fl0_10 : (fun q : (Nat × Nat × Nat) => FLok 0 q.1 q.2.1 q.2.2) (18, 0, 7) := ⟨_, rfl, by decide, (mt2 _ (List.mem_of_getElem? (i := 78) (by decide +kernel)))⟩
theorem fl0_11 : (fun q : (Nat × Nat × Nat) => FLok 0 q.1 q.2.1 q.2.2) (24, 0, 8) := ⟨_, rfl, by decide, (mt2 _ (List.mem_of_getElem? (i := 80) (by decide +kernel)))⟩
theorem fl0_12 : (fun q : (Nat × Nat × Nat) => FLok 0 q.1 q.2.1 q.2.2) (28, 0, 9) := ⟨_, rfl, by decide, (mt2 _ (List.mem_of_getElem? (i := 86) (by decide +kernel)))⟩
theorem fl0_13 : (fun q : (Nat × Nat × Nat) => FLok 0 q.1 q.2.1 q.2.2) (31, 0, 10) := ⟨_, rfl, by decide, (mt2 _ (List.mem_of_getElem? (i := 88) (by decide +kernel)))⟩
theorem fl0_14 : (fun q : (Nat × Nat × Nat) => FLok 0 q.1 q.2.1 q.2.2) (34, 0, 11) := ⟨_, rfl, by decide, (mt2 _ (List.mem_of_getElem? (i := 92) (by decide +kernel)))⟩
theorem fl0_15 : (fun q : (Nat × Nat × Nat) => FLok 0 q.1 q.2.1 q.2.2) (37, 0, 12) := ⟨_, rfl, by decide, (mt2 _ (List.mem_of_getElem? (i := 96) (by decide +kernel)))⟩
theorem fl0_16 : (fun q : (Nat × Nat × Nat) => FLok 0 q.1 q.2.1 q.2.2) (40, 0, 13) := ⟨_, rfl, by decide, (mt2 _ (List.mem_of_getElem? (i := 98) (by decide +kernel)))⟩
theorem fl0_17 : (fun q : (Nat × Nat × Nat) => FLok 0 q.1 q.2.1 q.2.2) (43, 0, 14) := ⟨_, rfl, by decide, (mt2 _ (List.mem_of_getElem? (i := 101) (by decide +kernel)))⟩
theorem fl0_18 : (fun q : (Nat × Nat × Nat) => FLok 0 q.1 q.2.1 q.2.2) (49, 0, 15) := ⟨_, rfl, by decide, (mt2 _ (List.mem_of_getElem? (i := 104) (by decide +kernel)))⟩
theorem fl0_ok : ∀ q ∈ fl0, FLok 0 q.1 q.2.1 q.2.2 := List.forall_mem_cons.mpr ⟨fl0_0, List.forall_mem_cons.mpr ⟨fl0_1, List.forall_mem_cons.mpr ⟨fl0_2, List.forall_mem_cons.mpr ⟨fl0_3, List.forall_mem_cons.mpr ⟨fl0_4, List.forall_mem_cons.mpr ⟨fl0_5, List.forall_mem_cons.mpr ⟨fl0_6, List.forall_mem_cons.mpr ⟨fl0_7, List.forall_mem_cons.mpr ⟨fl0_8, List.forall_mem_cons.mpr ⟨fl0_9, List.forall_mem_cons.mpr ⟨fl0_10, List.forall_mem_cons.mpr ⟨fl0_11, List.forall_mem_cons.mpr ⟨fl0_12, List.forall_mem_cons.mpr ⟨fl0_13, List.forall_mem_cons.mpr ⟨fl0_14, List.forall_mem_cons.mpr ⟨fl0_15, List.forall_mem_cons.mpr ⟨fl0_16, List.forall_mem_cons.mpr ⟨fl0_17, List.forall_mem_cons.mpr ⟨fl0_18, fun _ h => absurd h List.not_mem_nil⟩⟩⟩⟩⟩⟩⟩⟩⟩⟩⟩⟩⟩⟩⟩⟩⟩⟩⟩
def fl1 : List (Nat × Nat × Nat) := [(41, 9, 3), (196, 9, 4), (86, 9, 5), (116, 2, 0), (128, 2, 1), (131, 2, 2), (138, 2, 3), (141, 2, 4), (144, 2, 6), (160, 2, 7), (150, 2, 8), (154, 2, 9), (83, 0, 0), (92, 0, 3), (106, 0, 4), (163, 0, 5), (181, 0, 6), (98, 0, 7), (109, 0, 8), (169, 0, 9), (172, 0, 10), (178, 0, 11), (184, 0, 12), (187, 0, 13), (190, 0, 14), (9, 1, 0), (15, 1, 1), (24, 1, 2), (102, 1, 3), (125, 1, 4), (175, 1, 5)]
theorem fl1_0 : (fun q : (Nat × Nat × Nat) => FLok 1 q.1 q.2.1 q.2.2) (41, 9, 3) := ⟨_, rfl, by decide, (mt1 _ (List.mem_of_getElem? (i := 116) (by decide +kernel)))⟩
theorem fl1_1 : (fun q : (Nat × Nat × Nat) => FLok 1 q.1 q.2.1 q.2.2) (196, 9, 4) := ⟨_, rfl, by decide, (mt1 _ (List.mem_of_getElem? (i := 119) (by decide +kernel)))⟩
theorem fl1_2 : (fun q : (Nat × Nat × Nat) => FLok 1 q.1 q.2.1 q.2.2) (86, 9, 5) := ⟨_, rfl, by decide, (mt1 _ (List.mem_of_getElem? (i := 120) (by decide +kernel)))⟩
theorem fl1_3 : (fun q : (Nat × Nat × Nat) => FLok 1 q.1 q.2.1 q.2.2) (116, 2, 0) := ⟨_, rfl, by decide, (mt1 _ (List.mem_of_getElem? (i := 225) (by decide +kernel)))⟩
theorem fl1_4 : (fun q : (Nat × Nat × Nat) => FLok 1 q.1 q.2.1 q.2.2) (128, 2, 1) := ⟨_, rfl, by decide, (mt1 _ (List.mem_of_getElem? (i := 230) (by decide +kernel)))⟩
theorem fl1_5 : (fun q : (Nat × Nat × Nat) => FLok 1 q.1 q.2.1 q.2.2) (131, 2, 2) := ⟨_, rfl, by decide, (mt1 _ (List.mem_of_getElem? (i := 233) (by decide +kernel)))⟩
theorem fl1_6 : (fun q : (Nat × Nat × Nat) => FLok 1 q.1 q.2.1 q.2.2) (138, 2, 3) := ⟨_, rfl, by decide, (mt1 _ (List.mem_of_getElem? (i := 237) (by decide +kernel)))⟩
theorem fl1_7 : (fun q : (Nat × Nat × Nat) => FLok 1 q.1 q.2.1 q.2.2) (141, 2, 4) := ⟨_, rfl, by decide, (mt2 _ (List.mem_of_getElem? (i := 0) (by decide +kernel)))⟩
theorem fl1_8 : (fun q : (Nat × Nat × Nat) => FLok 1 q.1 q.2.1 q.2.2) (144, 2, 6) := ⟨_, rfl, by decide, (mt2 _ (List.mem_of_getElem? (i := 8) (by decide +kernel)))⟩
theorem fl1_9 : (fun q : (Nat × Nat × Nat) => FLok 1 q.1 q.2.1 q.2.2) (160, 2, 7) := ⟨_, rfl, by decide, (mt2 _ (List.mem_of_getElem? (i := 12) (by decide +kernel)))⟩
theorem fl1_10 : (fun q : (Nat × Nat × Nat) => FLok 1 q.1 q.2.1 q.2.2) (150, 2, 8) := ⟨_, rfl, by decide, (mt2 _ (List.mem_of_getElem? (i := 17) (by decide +kernel)))⟩
theorem fl1_11 : (fun q : (Nat × Nat × Nat) => FLok 1 q.1 q.2.1 q.2.2) (154, 2, 9) := ⟨_, rfl, by decide, (mt2 _ (List.mem_of_getElem? (i := 22) (by decide +kernel)))⟩
theorem fl1_12 : (fun q : (Nat × Nat × Nat) => FLok 1 q.1 q.2.1 q.2.2) (83, 0, 0) := ⟨_, rfl, by decide, (mt2 _ (List.mem_of_getElem? (i := 52) (by decide +kernel)))⟩
theorem fl1_13 : (fun q : (Nat × Nat × Nat) => FLok 1 q.1 q.2.1 q.2.2) (92, 0, 3) := ⟨_, rfl, by decide, (mt2 _ (List.mem_of_getElem? (i := 61) (by decide +kernel)))⟩
theorem fl1_14 : (fun q : (Nat × Nat × Nat) => FLok 1 q.1 q.2.1 q.2.2) (106, 0, 4) := ⟨_, rfl, by decide, (mt2 _ (List.mem_of_getElem? (i := 69) (by decide +kernel)))⟩
theorem fl1_15 : (fun q : (Nat × Nat × Nat) => FLok 1 q.1 q.2.1 q.2.2) (163, 0, 5) := ⟨_, rfl, by decide, (mt2 _ (List.mem_of_getElem? (i := 72) (by decide +kernel)))⟩
theorem fl1_16 : (fun q : (Nat × Nat × Nat) => FLok 1 q.1 q.2.1 q.2.2) (181, 0, 6) := ⟨_, rfl, by decide, (mt2 _ (List.mem_of_getElem? (i := 76) (by decide +kernel)))⟩
theorem fl1_17 : (fun q : (Nat × Nat × Nat) => FLok 1 q.1 q.2.1 q.2.2) (98, 0, 7) := ⟨_, rfl, by decide, (mt2 _ (List.mem_of_getElem? (i := 79) (by decide +kernel)))⟩
theorem fl1_18 : (fun q : (Nat × Nat × Nat) => FLok 1 q.1 q.2.1 q.2.2) (109, 0, 8) := ⟨_, rfl, by decide, (mt2 _ (List.mem_of_getElem? (i := 84) (by decide +kernel)))⟩
theorem fl1_19 : (fun q : (Nat × Nat × Nat) => FLok 1 q.1 q.2.1 q.2.2) (169, 0, 9) := ⟨_, rfl, by decide, (mt2 _ (List.mem_of_getElem? (i := 87) (by decide +kernel)))⟩
theorem fl1_20 : (fun q : (Nat × Nat × Nat) => FLok 1 q.1 q.2.1 q.2.2) (172, 0, 10) := ⟨_, rfl, by decide, (mt2 _ (List.mem_of_getElem? (i := 90) (by decide +kernel)))⟩
theorem fl1_21 : (fun q : (Nat × Nat × Nat) => FLok 1 q.1 q.2.1 q.2.2) (178, 0, 11) := ⟨_, rfl, by decide, (mt2 _ (List.mem_of_getElem? (i := 94) (by decide +kernel)))⟩
theorem fl1_22 : (fun q : (Nat × Nat × Nat) => FLok 1 q.1 q.2.1 q.2.2) (184, 0, 12) := ⟨_, rfl, by decide, (mt2 _ (List.mem_of_getElem? (i := 97) (by decide +kernel)))⟩
theorem fl1_23 : (fun q : (Nat × Nat × Nat) => FLok 1 q.1 q.2.1 q.2.2) (187, 0, 13) := ⟨_, rfl, by decide, (mt2 _ (List.mem_of_getElem? (i := 99) (by decide +kernel)))⟩
theorem fl1_24 : (fun q : (Nat × Nat × Nat) => FLok 1 q.1 q.2.1 q.2.2) (190, 0, 14) := ⟨_, rfl, by decide, (mt2 _ (List.mem_of_getElem? (i := 102) (by decide +kernel)))⟩
theorem fl1_25 : (fun q : (Nat × Nat × Nat) => FLok 1 q.1 q.2.1 q.2.2) (9, 1, 0) := ⟨_, rfl, by decide, (mt2 _ (List.mem_of_getElem? (i := 235) (by decide +kernel)))⟩
theorem fl1_26 : (fun q : (Nat × Nat × Nat) => FLok 1 q.1 q.2.1 q.2.2) (15, 1, 1) := ⟨_, rfl, by decide, (mt2 _ (List.mem_of_getElem? (i := 236) (by decide +kernel)))⟩
theorem fl1_27 : (fun q : (Nat × Nat × Nat) => FLok 1 q.1 q.2.1 q.2.2) (24, 1, 2) := ⟨_, rfl, by decide, (mt2 _ (List.mem_of_getElem? (i := 237) (by decide +kernel)))⟩
theorem fl1_28 : (fun q : (Nat × Nat × Nat) => FLok 1 q.1 q.2.1 q.2.2) (102, 1, 3) := ⟨_, rfl, by decide, (mt2 _ (List.mem_of_getElem? (i := 238) (by decide +kernel)))⟩
theorem fl1_29 : (fun q : (Nat × Nat × Nat) => FLok 1 q.1 q.2.1 q.2.2) (125, 1, 4) := ⟨_, rfl, by decide, (mt2 _ (List.mem_of_getElem? (i := 239) (by decide +kernel)))⟩
theorem fl1_30 : (fun q : (Nat × Nat × Nat) => FLok 1 q.1 q.2.1 q.2.2) (175, 1, 5) := ⟨_, rfl, by decide, (mt3 _ (List.mem_of_getElem? (i := 0) (by decide +kernel)))⟩
theorem fl1_ok : ∀ q ∈ fl1, FLok 1 q.1 q.2.1 q.2.2 := List.forall_mem_cons.mpr ⟨fl1_0, List.forall_mem_cons.mpr ⟨fl1_1, List.forall_mem_cons.mpr ⟨fl1_2, List.forall_mem_cons.mpr ⟨fl1_3, List.forall_mem_cons.mpr ⟨fl1_4, List.forall_mem_cons.mpr ⟨fl1_5, List.forall_mem_cons.mpr ⟨fl1_6, List.forall_mem_cons.mpr ⟨fl1_7, List.forall_mem_cons.mpr ⟨fl1_8, List.forall_mem_cons.mpr ⟨fl1_9, List.forall_mem_cons.mpr ⟨fl1_10, List.forall_mem_cons.mpr ⟨fl1_11, List.forall_mem_cons.mpr ⟨fl1_12, List.forall_mem_cons.mpr ⟨fl1_13, List.forall_mem_cons.mpr ⟨fl1_14, List.forall_mem_cons.mpr ⟨fl1_15, List.forall_mem_cons.mpr ⟨fl1_16, List.forall_mem_cons.mpr ⟨fl1_17, List.forall_mem_cons.mpr ⟨fl1_18, List.forall_mem_cons.mpr ⟨fl1_19, List.forall_mem_cons.mpr ⟨fl1_20, List.forall_mem_cons.mpr ⟨fl1_21, List.forall_mem_cons.mpr ⟨fl1_22, List.forall_mem_cons.mpr ⟨fl1_23, List.forall_mem_cons.mpr ⟨fl1_24, List.forall_mem_cons.mpr ⟨fl1_25, List.forall_mem_cons.mpr ⟨fl1_26, List.forall_mem_cons.mpr ⟨fl1_27, List.forall_mem_cons.mpr ⟨fl1_28, List.forall_mem_cons.mpr ⟨fl1_29, List.forall_mem_cons.mpr ⟨fl1_30, fun _ h => absurd h List.not_mem_nil⟩⟩⟩⟩⟩⟩⟩⟩⟩⟩⟩⟩⟩⟩⟩⟩⟩⟩⟩⟩⟩⟩⟩⟩⟩⟩⟩⟩⟩⟩⟩
def fl2 : List (Nat × Nat × Nat) := [(18, 2, 0), (22, 2, 1), (25, 2, 2), (28, 2, 3), (31, 2, 4), (9, 2, 5), (34, 2, 6), (15, 2, 7), (37, 2, 8), (41, 2, 9)]
theorem fl2_0 : (fun q : (Nat × Nat × Nat) => FLok 2 q.1 q.2.1 q.2.2) (18, 2, 0) := ⟨_, rfl, by decide, (mt1 _ (List.mem_of_getElem? (i := 224) (by decide +kernel)))⟩
theorem fl2_1 : (fun q : (Nat × Nat × Nat) => FLok 2 q.1 q.2.1 q.2.2) (22, 2, 1) := ⟨_, rfl, by decide, (mt1 _ (List.mem_of_getElem? (i := 227) (by decide +kernel)))⟩
theorem fl2_2 : (fun q : (Nat × Nat × Nat) => FLok 2 q.1 q.2.1 q.2.2) (25, 2, 2) := ⟨_, rfl, by decide, (mt1 _ (List.mem_of_getElem? (i := 232) (by decide +kernel)))⟩
theorem fl2_3 : (fun q : (Nat × Nat × Nat) => FLok 2 q.1 q.2.1 q.2.2) (28, 2, 3) := ⟨_, rfl, by decide, (mt1 _ (List.mem_of_getElem? (i := 236) (by decide +kernel)))⟩
theorem fl2_4 : (fun q : (Nat × Nat × Nat) => FLok 2 q.1 q.2.1 q.2.2) (31, 2, 4) := ⟨_, rfl, by decide, (mt1 _ (List.mem_of_getElem? (i := 239) (by decide +kernel)))⟩
theorem fl2_5 : (fun q : (Nat × Nat × Nat) => FLok 2 q.1 q.2.1 q.2.2) (9, 2, 5) := ⟨_, rfl, by decide, (mt2 _ (List.mem_of_getElem? (i := 3) (by decide +kernel)))⟩
theorem fl2_6 : (fun q : (Nat × Nat × Nat) => FLok 2 q.1 q.2.1 q.2.2) (34, 2, 6) := ⟨_, rfl, by decide, (mt2 _ (List.mem_of_getElem? (i := 6) (by decide +kernel)))⟩
theorem fl2_7 : (fun q : (Nat × Nat × Nat) => FLok 2 q.1 q.2.1 q.2.2) (15, 2, 7) := ⟨_, rfl, by decide, (mt2 _ (List.mem_of_getElem? (i := 10) (by decide +kernel)))⟩
theorem fl2_8 : (fun q : (Nat × Nat × Nat) => FLok 2 q.1 q.2.1 q.2.2) (37, 2, 8) := ⟨_, rfl, by decide, (mt2 _ (List.mem_of_getElem? (i := 14) (by decide +kernel)))⟩
theorem fl2_9 : (fun q : (Nat × Nat × Nat) => FLok 2 q.1 q.2.1 q.2.2) (41, 2, 9) := ⟨_, rfl, by decide, (mt2 _ (List.mem_of_getElem? (i := 20) (by decide +kernel)))⟩
theorem fl2_ok : ∀ q ∈ fl2, FLok 2 q.1 q.2.1 q.2.2 := List.forall_mem_cons.mpr ⟨fl2_0, List.forall_mem_cons.mpr ⟨fl2_1, List.forall_mem_cons.mpr ⟨fl2_2, List.forall_mem_cons.mpr ⟨fl2_3, List.forall_mem_cons.mpr ⟨fl2_4, List.forall_mem_cons.mpr ⟨fl2_5, List.forall_mem_cons.mpr ⟨fl2_6, List.forall_mem_cons.mpr ⟨fl2_7, List.forall_mem_cons.mpr ⟨fl2_8, List.forall_mem_cons.mpr ⟨fl2_9, fun _ h => absurd h List.not_mem_nil⟩⟩⟩⟩⟩⟩⟩⟩⟩⟩
def fl3 : List (Nat × Nat × Nat) := [(46, 5, 1), (68, 5, 2), (118, 5, 3), (92, 5, 4), (141, 5, 5), (74, 5, 6), (59, 5, 7), (138, 2, 2), (103, 2, 5), (115, 2, 8), (71, 0, 1), (99, 0, 4), (88, 0, 8), (40, 0, 15), (15, 3, 0), (19, 3, 1), (23, 3, 2), (27, 3, 3), (30, 3, 4), (9, 3, 5)]
theorem fl3_0 : (fun q : (Nat × Nat × Nat) => FLok 3 q.1 q.2.1 q.2.2) (46, 5, 1) := ⟨_, rfl, by decide, (mt1 _ (List.mem_of_getElem? (i := 180) (by decide +kernel)))⟩
theorem fl3_1 : (fun q : (Nat × Nat × Nat) => FLok 3 q.1 q.2.1 q.2.2) (68, 5, 2) := ⟨_, rfl, by decide, (mt1 _ (List.mem_of_getElem? (i := 184) (by decide +kernel)))⟩
theorem fl3_2 : (fun q : (Nat × Nat × Nat) => FLok 3 q.1 q.2.1 q.2.2) (118, 5, 3) := ⟨_, rfl, by decide, (mt1 _ (List.mem_of_getElem? (i := 187) (by decide +kernel)))⟩
theorem fl3_3 : (fun q : (Nat × Nat × Nat) => FLok 3 q.1 q.2.1 q.2.2) (92, 5, 4) := ⟨_, rfl, by decide, (mt1 _ (List.mem_of_getElem? (i := 190) (by decide +kernel)))⟩
theorem fl3_4 : (fun q : (Nat × Nat × Nat) => FLok 3 q.1 q.2.1 q.2.2) (141, 5, 5) := ⟨_, rfl, by decide, (mt1 _ (List.mem_of_getElem? (i := 193) (by decide +kernel)))⟩
theorem fl3_5 : (fun q : (Nat × Nat × Nat) => FLok 3 q.1 q.2.1 q.2.2) (74, 5, 6) := ⟨_, rfl, by decide, (mt1 _ (List.mem_of_getElem? (i := 196) (by decide +kernel)))⟩
theorem fl3_6 : (fun q : (Nat × Nat × Nat) => FLok 3 q.1 q.2.1 q.2.2) (59, 5, 7) := ⟨_, rfl, by decide, (mt1 _ (List.mem_of_getElem? (i := 200) (by decide +kernel)))⟩
theorem fl3_7 : (fun q : (Nat × Nat × Nat) => FLok 3 q.1 q.2.1 q.2.2) (138, 2, 2) := ⟨_, rfl, by decide, (mt1 _ (List.mem_of_getElem? (i := 234) (by decide +kernel)))⟩
theorem fl3_8 : (fun q : (Nat × Nat × Nat) => FLok 3 q.1 q.2.1 q.2.2) (103, 2, 5) := ⟨_, rfl, by decide, (mt2 _ (List.mem_of_getElem? (i := 4) (by decide +kernel)))⟩
theorem fl3_9 : (fun q : (Nat × Nat × Nat) => FLok 3 q.1 q.2.1 q.2.2) (115, 2, 8) := ⟨_, rfl, by decide, (mt2 _ (List.mem_of_getElem? (i := 16) (by decide +kernel)))⟩
theorem fl3_10 : (fun q : (Nat × Nat × Nat) => FLok 3 q.1 q.2.1 q.2.2) (71, 0, 1) := ⟨_, rfl, by decide, (mt2 _ (List.mem_of_getElem? (i := 55) (by decide +kernel)))⟩
theorem fl3_11 : (fun q : (Nat × Nat × Nat) => FLok 3 q.1 q.2.1 q.2.2) (99, 0, 4) := ⟨_, rfl, by decide, (mt2 _ (List.mem_of_getElem? (i := 68) (by decide +kernel)))⟩
theorem fl3_12 : (fun q : (Nat × Nat × Nat) => FLok 3 q.1 q.2.1 q.2.2) (88, 0, 8) := ⟨_, rfl, by decide, (mt2 _ (List.mem_of_getElem? (i := 83) (by decide +kernel)))⟩
theorem fl3_13 : (fun q : (Nat × Nat × Nat) => FLok 3 q.1 q.2.1 q.2.2) (40, 0, 15) := ⟨_, rfl, by decide, (mt2 _ (List.mem_of_getElem? (i := 105) (by decide +kernel)))⟩
theorem fl3_14 : (fun q : (Nat × Nat × Nat) => FLok 3 q.1 q.2.1 q.2.2) (15, 3, 0) := ⟨_, rfl, by decide, (mt3 _ (List.mem_of_getElem? (i := 45) (by decide +kernel)))⟩
theorem fl3_15 : (fun q : (Nat × Nat × Nat) => FLok 3 q.1 q.2.1 q.2.2) (19, 3, 1) := ⟨_, rfl, by decide, (mt3 _ (List.mem_of_getElem? (i := 46) (by decide +kernel)))⟩
theorem fl3_16 : (fun q : (Nat × Nat × Nat) => FLok 3 q.1 q.2.1 q.2.2) (23, 3, 2) := ⟨_, rfl, by decide, (mt3 _ (List.mem_of_getElem? (i := 47) (by decide +kernel)))⟩
theorem fl3_17 : (fun q : (Nat × Nat × Nat) => FLok 3 q.1 q.2.1 q.2.2) (27, 3, 3) := ⟨_, rfl, by decide, (mt3 _ (List.mem_of_getElem? (i := 48) (by decide +kernel)))⟩
theorem fl3_18 : (fun q : (Nat × Nat × Nat) => FLok 3 q.1 q.2.1 q.2.2) (30, 3, 4) := ⟨_, rfl, by decide, (mt3 _ (List.mem_of_getElem? (i := 49) (by decide +kernel)))⟩
theorem fl3_19 : (fun q : (Nat × Nat × Nat) => FLok 3 q.1 q.2.1 q.2.2) (9, 3, 5) := ⟨_, rfl, by decide, (mt3 _ (List.mem_of_getElem? (i := 50) (by decide +kernel)))⟩
theorem fl3_ok : ∀ q ∈ fl3, FLok 3 q.1 q.2.1 q.2.2 := List.forall_mem_cons.mpr ⟨fl3_0, List.forall_mem_cons.mpr ⟨fl3_1, List.forall_mem_cons.mpr ⟨fl3_2, List.forall_mem_cons.mpr ⟨fl3_3, List.forall_mem_cons.mpr ⟨fl3_4, List.forall_mem_cons.mpr ⟨fl3_5, List.forall_mem_cons.mpr ⟨fl3_6, List.forall_mem_cons.mpr ⟨fl3_7, List.forall_mem_cons.mpr ⟨fl3_8, List.forall_mem_cons.mpr ⟨fl3_9, List.forall_mem_cons.mpr ⟨fl3_10, List.forall_mem_cons.mpr ⟨fl3_11, List.forall_mem_cons.mpr ⟨fl3_12, List.forall_mem_cons.mpr ⟨fl3_13, List.forall_mem_cons.mpr ⟨fl3_14, List.forall_mem_cons.mpr ⟨fl3_15, List.forall_mem_cons.mpr ⟨fl3_16, List.forall_mem_cons.mpr ⟨fl3_17, List.forall_mem_cons.mpr ⟨fl3_18, List.forall_mem_cons.mpr ⟨fl3_19, fun _ h => absurd h List.not_mem_nil⟩⟩⟩⟩⟩⟩⟩⟩⟩⟩⟩⟩⟩⟩⟩⟩⟩⟩⟩⟩
def fl4 : List (Nat × Nat × Nat) := [(86, 2, 1), (93, 2, 6), (73, 2, 7), (96, 2, 8), (89, 2, 9), (48, 0, 0), (99, 0, 3), (29, 0, 4), (111, 0, 5), (34, 0, 8), (105, 0, 10), (108, 0, 11), (21, 4, 0), (55, 4, 1), (58, 4, 2), (61, 4, 3), (25, 4, 4), (9, 4, 5), (64, 4, 6), (15, 4, 7), (18, 4, 8)]
theorem fl4_0 : (fun q : (Nat × Nat × Nat) => FLok 4 q.1 q.2.1 q.2.2) (86, 2, 1) := ⟨_, rfl, by decide, (mt1 _ (List.mem_of_getElem? (i := 229) (by decide +kernel)))⟩
theorem fl4_1 : (fun q : (Nat × Nat × Nat) => FLok 4 q.1 q.2.1 q.2.2) (93, 2, 6) := ⟨_, rfl, by decide, (mt2 _ (List.mem_of_getElem? (i := 7) (by decide +kernel)))⟩
theorem fl4_2 : (fun q : (Nat × Nat × Nat) => FLok 4 q.1 q.2.1 q.2.2) (73, 2, 7) := ⟨_, rfl, by decide, (mt2 _ (List.mem_of_getElem? (i := 11) (by decide +kernel)))⟩
theorem fl4_3 : (fun q : (Nat × Nat × Nat) => FLok 4 q.1 q.2.1 q.2.2) (96, 2, 8) := ⟨_, rfl, by decide, (mt2 _ (List.mem_of_getElem? (i := 15) (by decide +kernel)))⟩
theorem fl4_4 : (fun q : (Nat × Nat × Nat) => FLok 4 q.1 q.2.1 q.2.2) (89, 2, 9) := ⟨_, rfl, by decide, (mt2 _ (List.mem_of_getElem? (i := 21) (by decide +kernel)))⟩
theorem fl4_5 : (fun q : (Nat × Nat × Nat) => FLok 4 q.1 q.2.1 q.2.2) (48, 0, 0) := ⟨_, rfl, by decide, (mt2 _ (List.mem_of_getElem? (i := 51) (by decide +kernel)))⟩
theorem fl4_6 : (fun q : (Nat × Nat × Nat) => FLok 4 q.1 q.2.1 q.2.2) (99, 0, 3) := ⟨_, rfl, by decide, (mt2 _ (List.mem_of_getElem? (i := 62) (by decide +kernel)))⟩
theorem fl4_7 : (fun q : (Nat × Nat × Nat) => FLok 4 q.1 q.2.1 q.2.2) (29, 0, 4) := ⟨_, rfl, by decide, (mt2 _ (List.mem_of_getElem? (i := 64) (by decide +kernel)))⟩
theorem fl4_8 : (fun q : (Nat × Nat × Nat) => FLok 4 q.1 q.2.1 q.2.2) (111, 0, 5) := ⟨_, rfl, by decide, (mt2 _ (List.mem_of_getElem? (i := 73) (by decide +kernel)))⟩
theorem fl4_9 : (fun q : (Nat × Nat × Nat) => FLok 4 q.1 q.2.1 q.2.2) (34, 0, 8) := ⟨_, rfl, by decide, (mt2 _ (List.mem_of_getElem? (i := 81) (by decide +kernel)))⟩
theorem fl4_10 : (fun q : (Nat × Nat × Nat) => FLok 4 q.1 q.2.1 q.2.2) (105, 0, 10) := ⟨_, rfl, by decide, (mt2 _ (List.mem_of_getElem? (i := 89) (by decide +kernel)))⟩
theorem fl4_11 : (fun q : (Nat × Nat × Nat) => FLok 4 q.1 q.2.1 q.2.2) (108, 0, 11) := ⟨_, rfl, by decide, (mt2 _ (List.mem_of_getElem? (i := 93) (by decide +kernel)))⟩
theorem fl4_12 : (fun q : (Nat × Nat × Nat) => FLok 4 q.1 q.2.1 q.2.2) (21, 4, 0) := ⟨_, rfl, by decide, (mt2 _ (List.mem_of_getElem? (i := 147) (by decide +kernel)))⟩
theorem fl4_13 : (fun q : (Nat × Nat × Nat) => FLok 4 q.1 q.2.1 q.2.2) (55, 4, 1) := ⟨_, rfl, by decide, (mt2 _ (List.mem_of_getElem? (i := 148) (by decide +kernel)))⟩
theorem fl4_14 : (fun q : (Nat × Nat × Nat) => FLok 4 q.1 q.2.1 q.2.2) (58, 4, 2) := ⟨_, rfl, by decide, (mt2 _ (List.mem_of_getElem? (i := 149) (by decide +kernel)))⟩
theorem fl4_15 : (fun q : (Nat × Nat × Nat) => FLok 4 q.1 q.2.1 q.2.2) (61, 4, 3) := ⟨_, rfl, by decide, (mt2 _ (List.mem_of_getElem? (i := 150) (by decide +kernel)))⟩
theorem fl4_16 : (fun q : (Nat × Nat × Nat) => FLok 4 q.1 q.2.1 q.2.2) (25, 4, 4) := ⟨_, rfl, by decide, (mt2 _ (List.mem_of_getElem? (i := 151) (by decide +kernel)))⟩
theorem fl4_17 : (fun q : (Nat × Nat × Nat) => FLok 4 q.1 q.2.1 q.2.2) (9, 4, 5) := ⟨_, rfl, by decide, (mt2 _ (List.mem_of_getElem? (i := 152) (by decide +kernel)))⟩
theorem fl4_18 : (fun q : (Nat × Nat × Nat) => FLok 4 q.1 q.2.1 q.2.2) (64, 4, 6) := ⟨_, rfl, by decide, (mt2 _ (List.mem_of_getElem? (i := 155) (by decide +kernel)))⟩
theorem fl4_19 : (fun q : (Nat × Nat × Nat) => FLok 4 q.1 q.2.1 q.2.2) (15, 4, 7) := ⟨_, rfl, by decide, (mt2 _ (List.mem_of_getElem? (i := 157) (by decide +kernel)))⟩
theorem fl4_20 : (fun q : (Nat × Nat × Nat) => FLok 4 q.1 q.2.1 q.2.2) (18, 4, 8) := ⟨_, rfl, by decide, (mt2 _ (List.mem_of_getElem? (i := 159) (by decide +kernel)))⟩
theorem fl4_ok : ∀ q ∈ fl4, FLok 4 q.1 q.2.1 q.2.2 := List.forall_mem_cons.mpr ⟨fl4_0, List.forall_mem_cons.mpr ⟨fl4_1, List.forall_mem_cons.mpr ⟨fl4_2, List.forall_mem_cons.mpr ⟨fl4_3, List.forall_mem_cons.mpr ⟨fl4_4, List.forall_mem_cons.mpr ⟨fl4_5, List.forall_mem_cons.mpr ⟨fl4_6, List.forall_mem_cons.mpr ⟨fl4_7, List.forall_mem_cons.mpr ⟨fl4_8, List.forall_mem_cons.mpr ⟨fl4_9, List.forall_mem_cons.mpr ⟨fl4_10, List.forall_mem_cons.mpr ⟨fl4_11, List.forall_mem_cons.mpr ⟨fl4_12, List.forall_mem_cons.mpr ⟨fl4_13, List.forall_mem_cons.mpr ⟨fl4_14, List.forall_mem_cons.mpr ⟨fl4_15, List.forall_mem_cons.mpr ⟨fl4_16, List.forall_mem_cons.mpr ⟨fl4_17, List.forall_mem_cons.mpr ⟨fl4_18, List.forall_mem_cons.mpr ⟨fl4_19, List.forall_mem_cons.mpr ⟨fl4_20, fun _ h => absurd h List.not_mem_nil⟩⟩⟩⟩⟩⟩⟩⟩⟩⟩⟩⟩⟩⟩⟩⟩⟩⟩⟩⟩⟩
def fl5 : List (Nat × Nat × Nat) := [(30, 5, 0), (34, 5, 1), (9, 5, 2), (15, 5, 3), (18, 5, 4), (21, 5, 5), (24, 5, 6), (27, 5, 7)]
theorem fl5_0 : (fun q : (Nat × Nat × Nat) => FLok 5 q.1 q.2.1 q.2.2) (30, 5, 0) := ⟨_, rfl, by decide, (mt1 _ (List.mem_of_getElem? (i := 176) (by decide +kernel)))⟩
theorem fl5_1 : (fun q : (Nat × Nat × Nat) => FLok 5 q.1 q.2.1 q.2.2) (34, 5, 1) := ⟨_, rfl, by decide, (mt1 _ (List.mem_of_getElem? (i := 179) (by decide +kernel)))⟩
theorem fl5_2 : (fun q : (Nat × Nat × Nat) => FLok 5 q.1 q.2.1 q.2.2) (9, 5, 2) := ⟨_, rfl, by decide, (mt1 _ (List.mem_of_getElem? (i := 183) (by decide +kernel)))⟩
theorem fl5_3 : (fun q : (Nat × Nat × Nat) => FLok 5 q.1 q.2.1 q.2.2) (15, 5, 3) := ⟨_, rfl, by decide, (mt1 _ (List.mem_of_getElem? (i := 186) (by decide +kernel)))⟩
theorem fl5_4 : (fun q : (Nat × Nat × Nat) => FLok 5 q.1 q.2.1 q.2.2) (18, 5, 4) := ⟨_, rfl, by decide, (mt1 _ (List.mem_of_getElem? (i := 189) (by decide +kernel)))⟩
theorem fl5_5 : (fun q : (Nat × Nat × Nat) => FLok 5 q.1 q.2.1 q.2.2) (21, 5, 5) := ⟨_, rfl, by decide, (mt1 _ (List.mem_of_getElem? (i := 192) (by decide +kernel)))⟩
theorem fl5_6 : (fun q : (Nat × Nat × Nat) => FLok 5 q.1 q.2.1 q.2.2) (24, 5, 6) := ⟨_, rfl, by decide, (mt1 _ (List.mem_of_getElem? (i := 195) (by decide +kernel)))⟩
theorem fl5_7 : (fun q : (Nat × Nat × Nat) => FLok 5 q.1 q.2.1 q.2.2) (27, 5, 7) := ⟨_, rfl, by decide, (mt1 _ (List.mem_of_getElem? (i := 198) (by decide +kernel)))⟩
theorem fl5_ok : ∀ q ∈ fl5, FLok 5 q.1 q.2.1 q.2.2 := List.forall_mem_cons.mpr ⟨fl5_0, List.forall_mem_cons.mpr ⟨fl5_1, List.forall_mem_cons.mpr ⟨fl5_2, List.forall_mem_cons.mpr ⟨fl5_3, List.forall_mem_cons.mpr ⟨fl5_4, List.forall_mem_cons.mpr ⟨fl5_5, List.forall_mem_cons.mpr ⟨fl5_6, List.forall_mem_cons.mpr ⟨fl5_7, fun _ h => absurd h List.not_mem_nil⟩⟩⟩⟩⟩⟩⟩⟩
def fl6 : List (Nat × Nat × Nat) := [(47, 9, 3), (98, 9, 4), (89, 9, 5), (126, 9, 6), (60, 5, 0), (67, 5, 1), (79, 5, 2), (111, 5, 3), (131, 5, 4), (123, 5, 5), (86, 5, 6), (64, 5, 7), (12, 6, 0), (22, 6, 1), (26, 6, 2), (18, 6, 3), (33, 6, 4)]
theorem fl6_0 : (fun q : (Nat × Nat × Nat) => FLok 6 q.1 q.2.1 q.2.2) (47, 9, 3) := ⟨_, rfl, by decide, (mt1 _ (List.mem_of_getElem? (i := 115) (by decide +kernel)))⟩
theorem fl6_1 : (fun q : (Nat × Nat × Nat) => FLok 6 q.1 q.2.1 q.2.2) (98, 9, 4) := ⟨_, rfl, by decide, (mt1 _ (List.mem_of_getElem? (i := 118) (by decide +kernel)))⟩
theorem fl6_2 : (fun q : (Nat × Nat × Nat) => FLok 6 q.1 q.2.1 q.2.2) (89, 9, 5) := ⟨_, rfl, by decide, (mt1 _ (List.mem_of_getElem? (i := 121) (by decide +kernel)))⟩
theorem fl6_3 : (fun q : (Nat × Nat × Nat) => FLok 6 q.1 q.2.1 q.2.2) (126, 9, 6) := ⟨_, rfl, by decide, (mt1 _ (List.mem_of_getElem? (i := 123) (by decide +kernel)))⟩
theorem fl6_4 : (fun q : (Nat × Nat × Nat) => FLok 6 q.1 q.2.1 q.2.2) (60, 5, 0) := ⟨_, rfl, by decide, (mt1 _ (List.mem_of_getElem? (i := 177) (by decide +kernel)))⟩
theorem fl6_5 : (fun q : (Nat × Nat × Nat) => FLok 6 q.1 q.2.1 q.2.2) (67, 5, 1) := ⟨_, rfl, by decide, (mt1 _ (List.mem_of_getElem? (i := 181) (by decide +kernel)))⟩
theorem fl6_6 : (fun q : (Nat × Nat × Nat) => FLok 6 q.1 q.2.1 q.2.2) (79, 5, 2) := ⟨_, rfl, by decide, (mt1 _ (List.mem_of_getElem? (i := 185) (by decide +kernel)))⟩
theorem fl6_7 : (fun q : (Nat × Nat × Nat) => FLok 6 q.1 q.2.1 q.2.2) (111, 5, 3) := ⟨_, rfl, by decide, (mt1 _ (List.mem_of_getElem? (i := 188) (by decide +kernel)))⟩
theorem fl6_8 : (fun q : (Nat × Nat × Nat) => FLok 6 q.1 q.2.1 q.2.2) (131, 5, 4) := ⟨_, rfl, by decide, (mt1 _ (List.mem_of_getElem? (i := 191) (by decide +kernel)))⟩
theorem fl6_9 : (fun q : (Nat × Nat × Nat) => FLok 6 q.1 q.2.1 q.2.2) (123, 5, 5) := ⟨_, rfl, by decide, (mt1 _ (List.mem_of_getElem? (i := 194) (by decide +kernel)))⟩
theorem fl6_10 : (fun q : (Nat × Nat × Nat) => FLok 6 q.1 q.2.1 q.2.2) (86, 5, 6) := ⟨_, rfl, by decide, (mt1 _ (List.mem_of_getElem? (i := 197) (by decide +kernel)))⟩
theorem fl6_11 : (fun q : (Nat × Nat × Nat) => FLok 6 q.1 q.2.1 q.2.2) (64, 5, 7) := ⟨_, rfl, by decide, (mt1 _ (List.mem_of_getElem? (i := 199) (by decide +kernel)))⟩
theorem fl6_12 : (fun q : (Nat × Nat × Nat) => FLok 6 q.1 q.2.1 q.2.2) (12, 6, 0) := ⟨_, rfl, by decide, (mt3 _ (List.mem_of_getElem? (i := 22) (by decide +kernel)))⟩
theorem fl6_13 : (fun q : (Nat × Nat × Nat) => FLok 6 q.1 q.2.1 q.2.2) (22, 6, 1) := ⟨_, rfl, by decide, (mt3 _ (List.mem_of_getElem? (i := 24) (by decide +kernel)))⟩
theorem fl6_14 : (fun q : (Nat × Nat × Nat) => FLok 6 q.1 q.2.1 q.2.2) (26, 6, 2) := ⟨_, rfl, by decide, (mt3 _ (List.mem_of_getElem? (i := 25) (by decide +kernel)))⟩
theorem fl6_15 : (fun q : (Nat × Nat × Nat) => FLok 6 q.1 q.2.1 q.2.2) (18, 6, 3) := ⟨_, rfl, by decide, (mt3 _ (List.mem_of_getElem? (i := 26) (by decide +kernel)))⟩
theorem fl6_16 : (fun q : (Nat × Nat × Nat) => FLok 6 q.1 q.2.1 q.2.2) (33, 6, 4) := ⟨_, rfl, by decide, (mt3 _ (List.mem_of_getElem? (i := 27) (by decide +kernel)))⟩
theorem fl6_ok : ∀ q ∈ fl6, FLok 6 q.1 q.2.1 q.2.2 := List.forall_mem_cons.mpr ⟨fl6_0, List.forall_mem_cons.mpr ⟨fl6_1, List.forall_mem_cons.mpr ⟨fl6_2, List.forall_mem_cons.mpr ⟨fl6_3, List.forall_mem_cons.mpr ⟨fl6_4, List.forall_mem_cons.mpr ⟨fl6_5, List.forall_mem_cons.mpr ⟨fl6_6, List.forall_mem_cons.mpr ⟨fl6_7, List.forall_mem_cons.mpr ⟨fl6_8, List.forall_mem_cons.mpr ⟨fl6_9, List.forall_mem_cons.mpr ⟨fl6_10, List.forall_mem_cons.mpr ⟨fl6_11, List.forall_mem_cons.mpr ⟨fl6_12, List.forall_mem_cons.mpr ⟨fl6_13, List.forall_mem_cons.mpr ⟨fl6_14, List.forall_mem_cons.mpr ⟨fl6_15, List.forall_mem_cons.mpr ⟨fl6_16, fun _ h => absurd h List.not_mem_nil⟩⟩⟩⟩⟩⟩⟩⟩⟩⟩⟩⟩⟩⟩⟩⟩⟩
def fl7 : List (Nat × Nat × Nat) := [(77, 2, 1), (70, 0, 4), (73, 0, 8), (90, 4, 5), (66, 4, 8), (15, 7, 0), (19, 7, 1), (54, 7, 2), (57, 7, 3), (60, 7, 4), (9, 7, 5)]
theorem fl7_0 : (fun q : (Nat × Nat × Nat) => FLok 7 q.1 q.2.1 q.2.2) (77, 2, 1) := ⟨_, rfl, by decide, (mt1 _ (List.mem_of_getElem? (i := 228) (by decide +kernel)))⟩
theorem fl7_1 : (fun q : (Nat × Nat × Nat) => FLok 7 q.1 q.2.1 q.2.2) (70, 0, 4) := ⟨_, rfl, by decide, (mt2 _ (List.mem_of_getElem? (i := 67) (by decide +kernel)))⟩
theorem fl7_2 : (fun q : (Nat × Nat × Nat) => FLok 7 q.1 q.2.1 q.2.2) (73, 0, 8) := ⟨_, rfl, by decide, (mt2 _ (List.mem_of_getElem? (i := 82) (by decide +kernel)))⟩
theorem fl7_3 : (fun q : (Nat × Nat × Nat) => FLok 7 q.1 q.2.1 q.2.2) (90, 4, 5) := ⟨_, rfl, by decide, (mt2 _ (List.mem_of_getElem? (i := 154) (by decide +kernel)))⟩
theorem fl7_4 : (fun q : (Nat × Nat × Nat) => FLok 7 q.1 q.2.1 q.2.2) (66, 4, 8) := ⟨_, rfl, by decide, (mt2 _ (List.mem_of_getElem? (i := 161) (by decide +kernel)))⟩
theorem fl7_5 : (fun q : (Nat × Nat × Nat) => FLok 7 q.1 q.2.1 q.2.2) (15, 7, 0) := ⟨_, rfl, by decide, (mt2 _ (List.mem_of_getElem? (i := 188) (by decide +kernel)))⟩
theorem fl7_6 : (fun q : (Nat × Nat × Nat) => FLok 7 q.1 q.2.1 q.2.2) (19, 7, 1) := ⟨_, rfl, by decide, (mt2 _ (List.mem_of_getElem? (i := 189) (by decide +kernel)))⟩
theorem fl7_7 : (fun q : (Nat × Nat × Nat) => FLok 7 q.1 q.2.1 q.2.2) (54, 7, 2) := ⟨_, rfl, by decide, (mt2 _ (List.mem_of_getElem? (i := 190) (by decide +kernel)))⟩
theorem fl7_8 : (fun q : (Nat × Nat × Nat) => FLok 7 q.1 q.2.1 q.2.2) (57, 7, 3) := ⟨_, rfl, by decide, (mt2 _ (List.mem_of_getElem? (i := 191) (by decide +kernel)))⟩
theorem fl7_9 : (fun q : (Nat × Nat × Nat) => FLok 7 q.1 q.2.1 q.2.2) (60, 7, 4) := ⟨_, rfl, by decide, (mt2 _ (List.mem_of_getElem? (i := 192) (by decide +kernel)))⟩
theorem fl7_10 : (fun q : (Nat × Nat × Nat) => FLok 7 q.1 q.2.1 q.2.2) (9, 7, 5) := ⟨_, rfl, by decide, (mt2 _ (List.mem_of_getElem? (i := 193) (by decide +kernel)))⟩
theorem fl7_ok : ∀ q ∈ fl7, FLok 7 q.1 q.2.1 q.2.2 := List.forall_mem_cons.mpr ⟨fl7_0, List.forall_mem_cons.mpr ⟨fl7_1, List.forall_mem_cons.mpr ⟨fl7_2, List.forall_mem_cons.mpr ⟨fl7_3, List.forall_mem_cons.mpr ⟨fl7_4, List.forall_mem_cons.mpr ⟨fl7_5, List.forall_mem_cons.mpr ⟨fl7_6, List.forall_mem_cons.mpr ⟨fl7_7, List.forall_mem_cons.mpr ⟨fl7_8, List.forall_mem_cons.mpr ⟨fl7_9, List.forall_mem_cons.mpr ⟨fl7_10, fun _ h => absurd h List.not_mem_nil⟩⟩⟩⟩⟩⟩⟩⟩⟩⟩⟩
def fl8 : List (Nat × Nat × Nat) := [(63, 10, 2), (60, 0, 3), (51, 0, 4), (54, 4, 5), (69, 4, 8), (15, 8, 0), (25, 8, 1), (29, 8, 2), (9, 8, 3)]
theorem fl8_0 : (fun q : (Nat × Nat × Nat) => FLok 8 q.1 q.2.1 q.2.2) (63, 10, 2) := ⟨_, rfl, by decide, (mt1 _ (List.mem_of_getElem? (i := 42) (by decide +kernel)))⟩
theorem fl8_1 : (fun q : (Nat × Nat × Nat) => FLok 8 q.1 q.2.1 q.2.2) (60, 0, 3) := ⟨_, rfl, by decide, (mt2 _ (List.mem_of_getElem? (i := 60) (by decide +kernel)))⟩
theorem fl8_2 : (fun q : (Nat × Nat × Nat) => FLok 8 q.1 q.2.1 q.2.2) (51, 0, 4) := ⟨_, rfl, by decide, (mt2 _ (List.mem_of_getElem? (i := 66) (by decide +kernel)))⟩
theorem fl8_3 : (fun q : (Nat × Nat × Nat) => FLok 8 q.1 q.2.1 q.2.2) (54, 4, 5) := ⟨_, rfl, by decide, (mt2 _ (List.mem_of_getElem? (i := 153) (by decide +kernel)))⟩
theorem fl8_4 : (fun q : (Nat × Nat × Nat) => FLok 8 q.1 q.2.1 q.2.2) (69, 4, 8) := ⟨_, rfl, by decide, (mt2 _ (List.mem_of_getElem? (i := 160) (by decide +kernel)))⟩
theorem fl8_5 : (fun q : (Nat × Nat × Nat) => FLok 8 q.1 q.2.1 q.2.2) (15, 8, 0) := ⟨_, rfl, by decide, (mt2 _ (List.mem_of_getElem? (i := 214) (by decide +kernel)))⟩
theorem fl8_6 : (fun q : (Nat × Nat × Nat) => FLok 8 q.1 q.2.1 q.2.2) (25, 8, 1) := ⟨_, rfl, by decide, (mt2 _ (List.mem_of_getElem? (i := 215) (by decide +kernel)))⟩
theorem fl8_7 : (fun q : (Nat × Nat × Nat) => FLok 8 q.1 q.2.1 q.2.2) (29, 8, 2) := ⟨_, rfl, by decide, (mt2 _ (List.mem_of_getElem? (i := 217) (by decide +kernel)))⟩
theorem fl8_8 : (fun q : (Nat × Nat × Nat) => FLok 8 q.1 q.2.1 q.2.2) (9, 8, 3) := ⟨_, rfl, by decide, (mt2 _ (List.mem_of_getElem? (i := 219) (by decide +kernel)))⟩
theorem fl8_ok : ∀ q ∈ fl8, FLok 8 q.1 q.2.1 q.2.2 := List.forall_mem_cons.mpr ⟨fl8_0, List.forall_mem_cons.mpr ⟨fl8_1, List.forall_mem_cons.mpr ⟨fl8_2, List.forall_mem_cons.mpr ⟨fl8_3, List.forall_mem_cons.mpr ⟨fl8_4, List.forall_mem_cons.mpr ⟨fl8_5, List.forall_mem_cons.mpr ⟨fl8_6, List.forall_mem_cons.mpr ⟨fl8_7, List.forall_mem_cons.mpr ⟨fl8_8, fun _ h => absurd h List.not_mem_nil⟩⟩⟩⟩⟩⟩⟩⟩⟩
def fl9 : List (Nat × Nat × Nat) := [(43, 9, 0), (9, 9, 1), (15, 9, 2), (18, 9, 3), (69, 9, 4), (80, 9, 5), (83, 9, 6), (21, 9, 7), (25, 9, 8), (45, 9, 9), (54, 9, 10), (48, 9, 11), (57, 9, 12), (73, 9, 13)]
theorem fl9_0 : (fun q : (Nat × Nat × Nat) => FLok 9 q.1 q.2.1 q.2.2) (43, 9, 0) := ⟨_, rfl, by decide, (mt1 _ (List.mem_of_getElem? (i := 108) (by decide +kernel)))⟩
theorem fl9_1 : (fun q : (Nat × Nat × Nat) => FLok 9 q.1 q.2.1 q.2.2) (9, 9, 1) := ⟨_, rfl, by decide, (mt1 _ (List.mem_of_getElem? (i := 110) (by decide +kernel)))⟩
theorem fl9_2 : (fun q : (Nat × Nat × Nat) => FLok 9 q.1 q.2.1 q.2.2) (15, 9, 2) := ⟨_, rfl, by decide, (mt1 _ (List.mem_of_getElem? (i := 112) (by decide +kernel)))⟩
theorem fl9_3 : (fun q : (Nat × Nat × Nat) => FLok 9 q.1 q.2.1 q.2.2) (18, 9, 3) := ⟨_, rfl, by decide, (mt1 _ (List.mem_of_getElem? (i := 114) (by decide +kernel)))⟩
theorem fl9_4 : (fun q : (Nat × Nat × Nat) => FLok 9 q.1 q.2.1 q.2.2) (69, 9, 4) := ⟨_, rfl, by decide, (mt1 _ (List.mem_of_getElem? (i := 117) (by decide +kernel)))⟩
theorem fl9_5 : (fun q : (Nat × Nat × Nat) => FLok 9 q.1 q.2.1 q.2.2) (80, 9, 5) := ⟨_, rfl, by decide, (mt1 _ (List.mem_of_getElem? (i := 122) (by decide +kernel)))⟩
theorem fl9_6 : (fun q : (Nat × Nat × Nat) => FLok 9 q.1 q.2.1 q.2.2) (83, 9, 6) := ⟨_, rfl, by decide, (mt1 _ (List.mem_of_getElem? (i := 124) (by decide +kernel)))⟩
theorem fl9_7 : (fun q : (Nat × Nat × Nat) => FLok 9 q.1 q.2.1 q.2.2) (21, 9, 7) := ⟨_, rfl, by decide, (mt1 _ (List.mem_of_getElem? (i := 125) (by decide +kernel)))⟩
theorem fl9_8 : (fun q : (Nat × Nat × Nat) => FLok 9 q.1 q.2.1 q.2.2) (25, 9, 8) := ⟨_, rfl, by decide, (mt1 _ (List.mem_of_getElem? (i := 126) (by decide +kernel)))⟩
theorem fl9_9 : (fun q : (Nat × Nat × Nat) => FLok 9 q.1 q.2.1 q.2.2) (45, 9, 9) := ⟨_, rfl, by decide, (mt1 _ (List.mem_of_getElem? (i := 127) (by decide +kernel)))⟩
theorem fl9_10 : (fun q : (Nat × Nat × Nat) => FLok 9 q.1 q.2.1 q.2.2) (54, 9, 10) := ⟨_, rfl, by decide, (mt1 _ (List.mem_of_getElem? (i := 128) (by decide +kernel)))⟩
theorem fl9_11 : (fun q : (Nat × Nat × Nat) => FLok 9 q.1 q.2.1 q.2.2) (48, 9, 11) := ⟨_, rfl, by decide, (mt1 _ (List.mem_of_getElem? (i := 129) (by decide +kernel)))⟩
theorem fl9_12 : (fun q : (Nat × Nat × Nat) => FLok 9 q.1 q.2.1 q.2.2) (57, 9, 12) := ⟨_, rfl, by decide, (mt1 _ (List.mem_of_getElem? (i := 130) (by decide +kernel)))⟩
theorem fl9_13 : (fun q : (Nat × Nat × Nat) => FLok 9 q.1 q.2.1 q.2.2) (73, 9, 13) := ⟨_, rfl, by decide, (mt1 _ (List.mem_of_getElem? (i := 131) (by decide +kernel)))⟩
theorem fl9_ok : ∀ q ∈ fl9, FLok 9 q.1 q.2.1 q.2.2 := List.forall_mem_cons.mpr ⟨fl9_0, List.forall_mem_cons.mpr ⟨fl9_1, List.forall_mem_cons.mpr ⟨fl9_2, List.forall_mem_cons.mpr ⟨fl9_3, List.forall_mem_cons.mpr ⟨fl9_4, List.forall_mem_cons.mpr ⟨fl9_5, List.forall_mem_cons.mpr ⟨fl9_6, List.forall_mem_cons.mpr ⟨fl9_7, List.forall_mem_cons.mpr ⟨fl9_8, List.forall_mem_cons.mpr ⟨fl9_9, List.forall_mem_cons.mpr ⟨fl9_10, List.forall_mem_cons.mpr ⟨fl9_11, List.forall_mem_cons.mpr ⟨fl9_12, List.forall_mem_cons.mpr ⟨fl9_13, fun _ h => absurd h List.not_mem_nil⟩⟩⟩⟩⟩⟩⟩⟩⟩⟩⟩⟩⟩⟩
def fl10 : List (Nat × Nat × Nat) := [(9, 10, 0), (19, 10, 1), (15, 10, 2)]
theorem fl10_0 : (fun q : (Nat × Nat × Nat) => FLok 10 q.1 q.2.1 q.2.2) (9, 10, 0) := ⟨_, rfl, by decide, (mt1 _ (List.mem_of_getElem? (i := 37) (by decide +kernel)))⟩
theorem fl10_1 : (fun q : (Nat × Nat × Nat) => FLok 10 q.1 q.2.1 q.2.2) (19, 10, 1) := ⟨_, rfl, by decide, (mt1 _ (List.mem_of_getElem? (i := 39) (by decide +kernel)))⟩
theorem fl10_2 : (fun q : (Nat × Nat × Nat) => FLok 10 q.1 q.2.1 q.2.2) (15, 10, 2) := ⟨_, rfl, by decide, (mt1 _ (List.mem_of_getElem? (i := 41) (by decide +kernel)))⟩
theorem fl10_ok : ∀ q ∈ fl10, FLok 10 q.1 q.2.1 q.2.2 := List.forall_mem_cons.mpr ⟨fl10_0, List.forall_mem_cons.mpr ⟨fl10_1, List.forall_mem_cons.mpr ⟨fl10_2, fun _ h => absurd h List.not_mem_nil⟩⟩⟩
def fl11 : List (Nat × Nat × Nat) := [(176, 10, 0), (154, 10, 1), (172, 10, 2), (195, 9, 0), (223, 9, 1), (226, 9, 2), (425, 5, 0), (220, 5, 1), (273, 2, 1), (278, 2, 2), (281, 2, 3), (284, 2, 4), (287, 2, 5), (290, 2, 6), (303, 2, 7), (296, 2, 8), (300, 2, 9), (238, 0, 0), (241, 0, 1), (263, 0, 2), (128, 0, 3), (131, 0, 4), (134, 0, 5), (235, 0, 6), (269, 0, 8), (309, 0, 10), (312, 0, 11), (315, 0, 13), (318, 0, 14), (208, 0, 15), (247, 4, 6), (321, 4, 7), (327, 4, 8), (384, 7, 5), (408, 8, 1), (411, 8, 2), (212, 6, 0), (432, 3, 5), (7, 11, 0), (13, 11, 1), (17, 11, 2), (22, 11, 3), (30, 11, 4), (37, 11, 5), (41, 11, 6), (44, 11, 7), (438, 11, 8), (53, 11, 9), (62, 11, 10), (71, 11, 11), (80, 11, 12), (87, 11, 13), (94, 11, 14), (435, 11, 15), (98, 11, 16), (102, 11, 17)]
theorem fl11_0 : (fun q : (Nat × Nat × Nat) => FLok 11 q.1 q.2.1 q.2.2) (176, 10, 0) := ⟨_, rfl, by decide, (mt1 _ (List.mem_of_getElem? (i := 38) (by decide +kernel)))⟩
theorem fl11_1 : (fun q : (Nat × Nat × Nat) => FLok 11 q.1 q.2.1 q.2.2) (154, 10, 1) := ⟨_, rfl, by decide, (mt1 _ (List.mem_of_getElem? (i := 40) (by decide +kernel)))⟩
theorem fl11_2 : (fun q : (Nat × Nat × Nat) => FLok 11 q.1 q.2.1 q.2.2) (172, 10, 2) := ⟨_, rfl, by decide, (mt1 _ (List.mem_of_getElem? (i := 43) (by decide +kernel)))⟩
theorem fl11_3 : (fun q : (Nat × Nat × Nat) => FLok 11 q.1 q.2.1 q.2.2) (195, 9, 0) := ⟨_, rfl, by decide, (mt1 _ (List.mem_of_getElem? (i := 109) (by decide +kernel)))⟩
theorem fl11_4 : (fun q : (Nat × Nat × Nat) => FLok 11 q.1 q.2.1 q.2.2) (223, 9, 1) := ⟨_, rfl, by decide, (mt1 _ (List.mem_of_getElem? (i := 111) (by decide +kernel)))⟩
theorem fl11_5 : (fun q : (Nat × Nat × Nat) => FLok 11 q.1 q.2.1 q.2.2) (226, 9, 2) := ⟨_, rfl, by decide, (mt1 _ (List.mem_of_getElem? (i := 113) (by decide +kernel)))⟩
theorem fl11_6 : (fun q : (Nat × Nat × Nat) => FLok 11 q.1 q.2.1 q.2.2) (425, 5, 0) := ⟨_, rfl, by decide, (mt1 _ (List.mem_of_getElem? (i := 178) (by decide +kernel)))⟩
theorem fl11_7 : (fun q : (Nat × Nat × Nat) => FLok 11 q.1 q.2.1 q.2.2) (220, 5, 1) := ⟨_, rfl, by decide, (mt1 _ (List.mem_of_getElem? (i := 182) (by decide +kernel)))⟩
theorem fl11_8 : (fun q : (Nat × Nat × Nat) => FLok 11 q.1 q.2.1 q.2.2) (273, 2, 1) := ⟨_, rfl, by decide, (mt1 _ (List.mem_of_getElem? (i := 231) (by decide +kernel)))⟩
theorem fl11_9 : (fun q : (Nat × Nat × Nat) => FLok 11 q.1 q.2.1 q.2.2) (278, 2, 2) := ⟨_, rfl, by decide, (mt1 _ (List.mem_of_getElem? (i := 235) (by decide +kernel)))⟩
theorem fl11_10 : (fun q : (Nat × Nat × Nat) => FLok 11 q.1 q.2.1 q.2.2) (281, 2, 3) := ⟨_, rfl, by decide, (mt1 _ (List.mem_of_getElem? (i := 238) (by decide +kernel)))⟩
theorem fl11_11 : (fun q : (Nat × Nat × Nat) => FLok 11 q.1 q.2.1 q.2.2) (284, 2, 4) := ⟨_, rfl, by decide, (mt2 _ (List.mem_of_getElem? (i := 2) (by decide +kernel)))⟩
theorem fl11_12 : (fun q : (Nat × Nat × Nat) => FLok 11 q.1 q.2.1 q.2.2) (287, 2, 5) := ⟨_, rfl, by decide, (mt2 _ (List.mem_of_getElem? (i := 5) (by decide +kernel)))⟩
theorem fl11_13 : (fun q : (Nat × Nat × Nat) => FLok 11 q.1 q.2.1 q.2.2) (290, 2, 6) := ⟨_, rfl, by decide, (mt2 _ (List.mem_of_getElem? (i := 9) (by decide +kernel)))⟩
theorem fl11_14 : (fun q : (Nat × Nat × Nat) => FLok 11 q.1 q.2.1 q.2.2) (303, 2, 7) := ⟨_, rfl, by decide, (mt2 _ (List.mem_of_getElem? (i := 13) (by decide +kernel)))⟩
theorem fl11_15 : (fun q : (Nat × Nat × Nat) => FLok 11 q.1 q.2.1 q.2.2) (296, 2, 8) := ⟨_, rfl, by decide, (mt2 _ (List.mem_of_getElem? (i := 19) (by decide +kernel)))⟩
theorem fl11_16 : (fun q : (Nat × Nat × Nat) => FLok 11 q.1 q.2.1 q.2.2) (300, 2, 9) := ⟨_, rfl, by decide, (mt2 _ (List.mem_of_getElem? (i := 23) (by decide +kernel)))⟩
theorem fl11_17 : (fun q : (Nat × Nat × Nat) => FLok 11 q.1 q.2.1 q.2.2) (238, 0, 0) := ⟨_, rfl, by decide, (mt2 _ (List.mem_of_getElem? (i := 53) (by decide +kernel)))⟩
theorem fl11_18 : (fun q : (Nat × Nat × Nat) => FLok 11 q.1 q.2.1 q.2.2) (241, 0, 1) := ⟨_, rfl, by decide, (mt2 _ (List.mem_of_getElem? (i := 56) (by decide +kernel)))⟩
theorem fl11_19 : (fun q : (Nat × Nat × Nat) => FLok 11 q.1 q.2.1 q.2.2) (263, 0, 2) := ⟨_, rfl, by decide, (mt2 _ (List.mem_of_getElem? (i := 58) (by decide +kernel)))⟩
theorem fl11_20 : (fun q : (Nat × Nat × Nat) => FLok 11 q.1 q.2.1 q.2.2) (128, 0, 3) := ⟨_, rfl, by decide, (mt2 _ (List.mem_of_getElem? (i := 63) (by decide +kernel)))⟩
theorem fl11_21 : (fun q : (Nat × Nat × Nat) => FLok 11 q.1 q.2.1 q.2.2) (131, 0, 4) := ⟨_, rfl, by decide, (mt2 _ (List.mem_of_getElem? (i := 70) (by decide +kernel)))⟩
theorem fl11_22 : (fun q : (Nat × Nat × Nat) => FLok 11 q.1 q.2.1 q.2.2) (134, 0, 5) := ⟨_, rfl, by decide, (mt2 _ (List.mem_of_getElem? (i := 74) (by decide +kernel)))⟩
theorem fl11_23 : (fun q : (Nat × Nat × Nat) => FLok 11 q.1 q.2.1 q.2.2) (235, 0, 6) := ⟨_, rfl, by decide, (mt2 _ (List.mem_of_getElem? (i := 77) (by decide +kernel)))⟩
theorem fl11_24 : (fun q : (Nat × Nat × Nat) => FLok 11 q.1 q.2.1 q.2.2) (269, 0, 8) := ⟨_, rfl, by decide, (mt2 _ (List.mem_of_getElem? (i := 85) (by decide +kernel)))⟩
theorem fl11_25 : (fun q : (Nat × Nat × Nat) => FLok 11 q.1 q.2.1 q.2.2) (309, 0, 10) := ⟨_, rfl, by decide, (mt2 _ (List.mem_of_getElem? (i := 91) (by decide +kernel)))⟩
theorem fl11_26 : (fun q : (Nat × Nat × Nat) => FLok 11 q.1 q.2.1 q.2.2) (312, 0, 11) := ⟨_, rfl, by decide, (mt2 _ (List.mem_of_getElem? (i := 95) (by decide +kernel)))⟩
theorem fl11_27 : (fun q : (Nat × Nat × Nat) => FLok 11 q.1 q.2.1 q.2.2) (315, 0, 13) := ⟨_, rfl, by decide, (mt2 _ (List.mem_of_getElem? (i := 100) (by decide +kernel)))⟩
theorem fl11_28 : (fun q : (Nat × Nat × Nat) => FLok 11 q.1 q.2.1 q.2.2) (318, 0, 14) := ⟨_, rfl, by decide, (mt2 _ (List.mem_of_getElem? (i := 103) (by decide +kernel)))⟩
theorem fl11_29 : (fun q : (Nat × Nat × Nat) => FLok 11 q.1 q.2.1 q.2.2) (208, 0, 15) := ⟨_, rfl, by decide, (mt2 _ (List.mem_of_getElem? (i := 106) (by decide +kernel)))⟩
theorem fl11_30 : (fun q : (Nat × Nat × Nat) => FLok 11 q.1 q.2.1 q.2.2) (247, 4, 6) := ⟨_, rfl, by decide, (mt2 _ (List.mem_of_getElem? (i := 156) (by decide +kernel)))⟩
theorem fl11_31 : (fun q : (Nat × Nat × Nat) => FLok 11 q.1 q.2.1 q.2.2) (321, 4, 7) := ⟨_, rfl, by decide, (mt2 _ (List.mem_of_getElem? (i := 158) (by decide +kernel)))⟩
theorem fl11_32 : (fun q : (Nat × Nat × Nat) => FLok 11 q.1 q.2.1 q.2.2) (327, 4, 8) := ⟨_, rfl, by decide, (mt2 _ (List.mem_of_getElem? (i := 162) (by decide +kernel)))⟩
theorem fl11_33 : (fun q : (Nat × Nat × Nat) => FLok 11 q.1 q.2.1 q.2.2) (384, 7, 5) := ⟨_, rfl, by decide, (mt2 _ (List.mem_of_getElem? (i := 194) (by decide +kernel)))⟩
theorem fl11_34 : (fun q : (Nat × Nat × Nat) => FLok 11 q.1 q.2.1 q.2.2) (408, 8, 1) := ⟨_, rfl, by decide, (mt2 _ (List.mem_of_getElem? (i := 216) (by decide +kernel)))⟩
theorem fl11_35 : (fun q : (Nat × Nat × Nat) => FLok 11 q.1 q.2.1 q.2.2) (411, 8, 2) := ⟨_, rfl, by decide, (mt2 _ (List.mem_of_getElem? (i := 218) (by decide +kernel)))⟩
theorem fl11_36 : (fun q : (Nat × Nat × Nat) => FLok 11 q.1 q.2.1 q.2.2) (212, 6, 0) := ⟨_, rfl, by decide, (mt3 _ (List.mem_of_getElem? (i := 23) (by decide +kernel)))⟩
theorem fl11_37 : (fun q : (Nat × Nat × Nat) => FLok 11 q.1 q.2.1 q.2.2) (432, 3, 5) := ⟨_, rfl, by decide, (mt3 _ (List.mem_of_getElem? (i := 51) (by decide +kernel)))⟩
theorem fl11_38 : (fun q : (Nat × Nat × Nat) => FLok 11 q.1 q.2.1 q.2.2) (7, 11, 0) := ⟨_, rfl, by decide, (mt3 _ (List.mem_of_getElem? (i := 65) (by decide +kernel)))⟩
theorem fl11_39 : (fun q : (Nat × Nat × Nat) => FLok 11 q.1 q.2.1 q.2.2) (13, 11, 1) := ⟨_, rfl, by decide, (mt3 _ (List.mem_of_getElem? (i := 66) (by decide +kernel)))⟩
theorem fl11_40 : (fun q : (Nat × Nat × Nat) => FLok 11 q.1 q.2.1 q.2.2) (17, 11, 2) := ⟨_, rfl, by decide, (mt3 _ (List.mem_of_getElem? (i := 67) (by decide +kernel)))⟩
theorem fl11_41 : (fun q : (Nat × Nat × Nat) => FLok 11 q.1 q.2.1 q.2.2) (22, 11, 3) := ⟨_, rfl, by decide, (mt3 _ (List.mem_of_getElem? (i := 68) (by decide +kernel)))⟩
theorem fl11_42 : (fun q : (Nat × Nat × Nat) => FLok 11 q.1 q.2.1 q.2.2) (30, 11, 4) := ⟨_, rfl, by decide, (mt3 _ (List.mem_of_getElem? (i := 69) (by decide +kernel)))⟩
theorem fl11_43 : (fun q : (Nat × Nat × Nat) => FLok 11 q.1 q.2.1 q.2.2) (37, 11, 5) := ⟨_, rfl, by decide, (mt3 _ (List.mem_of_getElem? (i := 70) (by decide +kernel)))⟩
theorem fl11_44 : (fun q : (Nat × Nat × Nat) => FLok 11 q.1 q.2.1 q.2.2) (41, 11, 6) := ⟨_, rfl, by decide, (mt3 _ (List.mem_of_getElem? (i := 71) (by decide +kernel)))⟩
theorem fl11_45 : (fun q : (Nat × Nat × Nat) => FLok 11 q.1 q.2.1 q.2.2) (44, 11, 7) := ⟨_, rfl, by decide, (mt3 _ (List.mem_of_getElem? (i := 72) (by decide +kernel)))⟩
theorem fl11_46 : (fun q : (Nat × Nat × Nat) => FLok 11 q.1 q.2.1 q.2.2) (438, 11, 8) := ⟨_, rfl, by decide, (mt3 _ (List.mem_of_getElem? (i := 73) (by decide +kernel)))⟩
theorem fl11_47 : (fun q : (Nat × Nat × Nat) => FLok 11 q.1 q.2.1 q.2.2) (53, 11, 9) := ⟨_, rfl, by decide, (mt3 _ (List.mem_of_getElem? (i := 74) (by decide +kernel)))⟩
theorem fl11_48 : (fun q : (Nat × Nat × Nat) => FLok 11 q.1 q.2.1 q.2.2) (62, 11, 10) := ⟨_, rfl, by decide, (mt3 _ (List.mem_of_getElem? (i := 75) (by decide +kernel)))⟩
theorem fl11_49 : (fun q : (Nat × Nat × Nat) => FLok 11 q.1 q.2.1 q.2.2) (71, 11, 11) := ⟨_, rfl, by decide, (mt3 _ (List.mem_of_getElem? (i := 76) (by decide +kernel)))⟩
theorem fl11_50 : (fun q : (Nat × Nat × Nat) => FLok 11 q.1 q.2.1 q.2.2) (80, 11, 12) := ⟨_, rfl, by decide, (mt3 _ (List.mem_of_getElem? (i := 77) (by decide +kernel)))⟩
theorem fl11_51 : (fun q : (Nat × Nat × Nat) => FLok 11 q.1 q.2.1 q.2.2) (87, 11, 13) := ⟨_, rfl, by decide, (mt3 _ (List.mem_of_getElem? (i := 78) (by decide +kernel)))⟩
theorem fl11_52 : (fun q : (Nat × Nat × Nat) => FLok 11 q.1 q.2.1 q.2.2) (94, 11, 14) := ⟨_, rfl, by decide, (mt3 _ (List.mem_of_getElem? (i := 79) (by decide +kernel)))⟩
theorem fl11_53 : (fun q : (Nat × Nat × Nat) => FLok 11 q.1 q.2.1 q.2.2) (435, 11, 15) := ⟨_, rfl, by decide, (mt3 _ (List.mem_of_getElem? (i := 80) (by decide +kernel)))⟩
theorem fl11_54 : (fun q : (Nat × Nat × Nat) => FLok 11 q.1 q.2.1 q.2.2) (98, 11, 16) := ⟨_, rfl, by decide, (mt3 _ (List.mem_of_getElem? (i := 81) (by decide +kernel)))⟩
theorem fl11_55 : (fun q : (Nat × Nat × Nat) => FLok 11 q.1 q.2.1 q.2.2) (102, 11, 17) := ⟨_, rfl, by decide, (mt3 _ (List.mem_of_getElem? (i := 82) (by decide +kernel)))⟩
theorem fl11_ok : ∀ q ∈ fl11, FLok 11 q.1 q.2.1 q.2.2 := List.forall_mem_cons.mpr ⟨fl11_0, List.forall_mem_cons.mpr ⟨fl11_1, List.forall_mem_cons.mpr ⟨fl11_2, List.forall_mem_cons.mpr ⟨fl11_3, List.forall_mem_cons.mpr ⟨fl11_4, List.forall_mem_cons.mpr ⟨fl11_5, List.forall_mem_cons.mpr ⟨fl11_6, List.forall_mem_cons.mpr ⟨fl11_7, List.forall_mem_cons.mpr ⟨fl11_8, List.forall_mem_cons.mpr ⟨fl11_9, List.forall_mem_cons.mpr ⟨fl11_10, List.forall_mem_cons.mpr ⟨fl11_11, List.forall_mem_cons.mpr ⟨fl11_12, List.forall_mem_cons.mpr ⟨fl11_13, List.forall_mem_cons.mpr ⟨fl11_14, List.forall_mem_cons.mpr ⟨fl11_15, List.forall_mem_cons.mpr ⟨fl11_16, List.forall_mem_cons.mpr ⟨fl11_17, List.forall_mem_cons.mpr ⟨fl11_18, List.forall_mem_cons.mpr ⟨fl11_19, List.forall_mem_cons.mpr ⟨fl11_20, List.forall_mem_cons.mpr ⟨fl11_21, List.forall_mem_cons.mpr ⟨fl11_22, List.forall_mem_cons.mpr ⟨fl11_23, List.forall_mem_cons.mpr ⟨fl11_24, List.forall_mem_cons.mpr ⟨fl11_25, List.forall_mem_cons.mpr ⟨fl11_26, List.forall_mem_cons.mpr ⟨fl11_27, List.forall_mem_cons.mpr ⟨fl11_28, List.forall_mem_cons.mpr ⟨fl11_29, List.forall_mem_cons.mpr ⟨fl11_30, List.forall_mem_cons.mpr ⟨fl11_31, List.forall_mem_cons.mpr ⟨fl11_32, List.forall_mem_cons.mpr ⟨fl11_33, List.forall_mem_cons.mpr ⟨fl11_34, List.forall_mem_cons.mpr ⟨fl11_35, List.forall_mem_cons.mpr ⟨fl11_36, List.forall_mem_cons.mpr ⟨fl11_37, List.forall_mem_cons.mpr ⟨fl11_38, List.forall_mem_cons.mpr ⟨fl11_39, List.forall_mem_cons.mpr ⟨fl11_40, List.forall_mem_cons.mpr ⟨fl11_41, List.forall_mem_cons.mpr ⟨fl11_42, List.forall_mem_cons.mpr ⟨fl11_43, List.forall_mem_cons.mpr ⟨fl11_44, List.forall_mem_cons.mpr ⟨fl11_45, List.forall_mem_cons.mpr ⟨fl11_46, List.forall_mem_cons.mpr ⟨fl11_47, List.forall_mem_cons.mpr ⟨fl11_48, List.forall_mem_cons.mpr ⟨fl11_49, List.forall_mem_cons.mpr ⟨fl11_50, List.forall_mem_cons.mpr ⟨fl11_51, List.forall_mem_cons.mpr ⟨fl11_52, List.forall_mem_cons.mpr ⟨fl11_53, List.forall_mem_cons.mpr ⟨fl11_54, List.forall_mem_cons.mpr ⟨fl11_55, fun _ h => absurd h List.not_mem_nil⟩⟩⟩⟩⟩⟩⟩⟩⟩⟩⟩⟩⟩⟩⟩⟩⟩⟩⟩⟩⟩⟩⟩⟩⟩⟩⟩⟩⟩⟩⟩⟩⟩⟩⟩⟩⟩⟩⟩⟩⟩⟩⟩⟩⟩⟩⟩⟩⟩⟩⟩⟩⟩⟩⟩⟩
def fl12 : List (Nat × Nat × Nat) := [(63, 12, 0), (60, 12, 1), (66, 12, 2), (7, 12, 3), (13, 12, 4), (17, 12, 5), (20, 12, 6), (24, 12, 7), (251, 12, 8), (103, 12, 9), (28, 12, 10), (32, 12, 11), (228, 12, 12), (231, 12, 13), (115, 12, 14), (109, 12, 15), (106, 12, 16), (134, 12, 17), (128, 12, 18), (121, 12, 19), (35, 12, 20), (38, 12, 21), (41, 12, 22), (44, 12, 23), (552, 12, 24), (272, 12, 25), (329, 12, 26), (453, 12, 27), (473, 12, 28), (476, 12, 29), (47, 12, 30), (50, 12, 31), (53, 12, 32), (549, 12, 33), (522, 12, 34), (497, 12, 35), (519, 12, 36), (529, 12, 37), (504, 12, 38), (501, 12, 39), (516, 12, 40), (526, 12, 41)]
theorem fl12_0 : (fun q : (Nat × Nat × Nat) => FLok 12 q.1 q.2.1 q.2.2) (63, 12, 0) := ⟨_, rfl, by decide, (mt6 _ (List.mem_of_getElem? (i := 194) (by decide +kernel)))⟩
theorem fl12_1 : (fun q : (Nat × Nat × Nat) => FLok 12 q.1 q.2.1 q.2.2) (60, 12, 1) := ⟨_, rfl, by decide, (mt6 _ (List.mem_of_getElem? (i := 195) (by decide +kernel)))⟩
theorem fl12_2 : (fun q : (Nat × Nat × Nat) => FLok 12 q.1 q.2.1 q.2.2) (66, 12, 2) := ⟨_, rfl, by decide, (mt6 _ (List.mem_of_getElem? (i := 196) (by decide +kernel)))⟩
theorem fl12_3 : (fun q : (Nat × Nat × Nat) => FLok 12 q.1 q.2.1 q.2.2) (7, 12, 3) := ⟨_, rfl, by decide, (mt6 _ (List.mem_of_getElem? (i := 197) (by decide +kernel)))⟩
theorem fl12_4 : (fun q : (Nat × Nat × Nat) => FLok 12 q.1 q.2.1 q.2.2) (13, 12, 4) := ⟨_, rfl, by decide, (mt6 _ (List.mem_of_getElem? (i := 198) (by decide +kernel)))⟩
theorem fl12_5 : (fun q : (Nat × Nat × Nat) => FLok 12 q.1 q.2.1 q.2.2) (17, 12, 5) := ⟨_, rfl, by decide, (mt6 _ (List.mem_of_getElem? (i := 199) (by decide +kernel)))⟩
theorem fl12_6 : (fun q : (Nat × Nat × Nat) => FLok 12 q.1 q.2.1 q.2.2) (20, 12, 6) := ⟨_, rfl, by decide, (mt6 _ (List.mem_of_getElem? (i := 200) (by decide +kernel)))⟩
theorem fl12_7 : (fun q : (Nat × Nat × Nat) => FLok 12 q.1 q.2.1 q.2.2) (24, 12, 7) := ⟨_, rfl, by decide, (mt6 _ (List.mem_of_getElem? (i := 201) (by decide +kernel)))⟩
theorem fl12_8 : (fun q : (Nat × Nat × Nat) => FLok 12 q.1 q.2.1 q.2.2) (251, 12, 8) := ⟨_, rfl, by decide, (mt6 _ (List.mem_of_getElem? (i := 202) (by decide +kernel)))⟩
theorem fl12_9 : (fun q : (Nat × Nat × Nat) => FLok 12 q.1 q.2.1 q.2.2) (103, 12, 9) := ⟨_, rfl, by decide, (mt6 _ (List.mem_of_getElem? (i := 203) (by decide +kernel)))⟩
theorem fl12_10 : (fun q : (Nat × Nat × Nat) => FLok 12 q.1 q.2.1 q.2.2) (28, 12, 10) := ⟨_, rfl, by decide, (mt6 _ (List.mem_of_getElem? (i := 204) (by decide +kernel)))⟩
theorem fl12_11 : (fun q : (Nat × Nat × Nat) => FLok 12 q.1 q.2.1 q.2.2) (32, 12, 11) := ⟨_, rfl, by decide, (mt6 _ (List.mem_of_getElem? (i := 205) (by decide +kernel)))⟩
theorem fl12_12 : (fun q : (Nat × Nat × Nat) => FLok 12 q.1 q.2.1 q.2.2) (228, 12, 12) := ⟨_, rfl, by decide, (mt6 _ (List.mem_of_getElem? (i := 206) (by decide +kernel)))⟩
theorem fl12_13 : (fun q : (Nat × Nat × Nat) => FLok 12 q.1 q.2.1 q.2.2) (231, 12, 13) := ⟨_, rfl, by decide, (mt6 _ (List.mem_of_getElem? (i := 207) (by decide +kernel)))⟩
theorem fl12_14 : (fun q : (Nat × Nat × Nat) => FLok 12 q.1 q.2.1 q.2.2) (115, 12, 14) := ⟨_, rfl, by decide, (mt6 _ (List.mem_of_getElem? (i := 208) (by decide +kernel)))⟩
theorem fl12_15 : (fun q : (Nat × Nat × Nat) => FLok 12 q.1 q.2.1 q.2.2) (109, 12, 15) := ⟨_, rfl, by decide, (mt6 _ (List.mem_of_getElem? (i := 209) (by decide +kernel)))⟩
theorem fl12_16 : (fun q : (Nat × Nat × Nat) => FLok 12 q.1 q.2.1 q.2.2) (106, 12, 16) := ⟨_, rfl, by decide, (mt6 _ (List.mem_of_getElem? (i := 210) (by decide +kernel)))⟩
theorem fl12_17 : (fun q : (Nat × Nat × Nat) => FLok 12 q.1 q.2.1 q.2.2) (134, 12, 17) := ⟨_, rfl, by decide, (mt6 _ (List.mem_of_getElem? (i := 211) (by decide +kernel)))⟩
theorem fl12_18 : (fun q : (Nat × Nat × Nat) => FLok 12 q.1 q.2.1 q.2.2) (128, 12, 18) := ⟨_, rfl, by decide, (mt6 _ (List.mem_of_getElem? (i := 212) (by decide +kernel)))⟩
theorem fl12_19 : (fun q : (Nat × Nat × Nat) => FLok 12 q.1 q.2.1 q.2.2) (121, 12, 19) := ⟨_, rfl, by decide, (mt6 _ (List.mem_of_getElem? (i := 213) (by decide +kernel)))⟩
theorem fl12_20 : (fun q : (Nat × Nat × Nat) => FLok 12 q.1 q.2.1 q.2.2) (35, 12, 20) := ⟨_, rfl, by decide, (mt6 _ (List.mem_of_getElem? (i := 214) (by decide +kernel)))⟩
theorem fl12_21 : (fun q : (Nat × Nat × Nat) => FLok 12 q.1 q.2.1 q.2.2) (38, 12, 21) := ⟨_, rfl, by decide, (mt6 _ (List.mem_of_getElem? (i := 215) (by decide +kernel)))⟩
theorem fl12_22 : (fun q : (Nat × Nat × Nat) => FLok 12 q.1 q.2.1 q.2.2) (41, 12, 22) := ⟨_, rfl, by decide, (mt6 _ (List.mem_of_getElem? (i := 216) (by decide +kernel)))⟩
theorem fl12_23 : (fun q : (Nat × Nat × Nat) => FLok 12 q.1 q.2.1 q.2.2) (44, 12, 23) := ⟨_, rfl, by decide, (mt6 _ (List.mem_of_getElem? (i := 217) (by decide +kernel)))⟩
theorem fl12_24 : (fun q : (Nat × Nat × Nat) => FLok 12 q.1 q.2.1 q.2.2) (552, 12, 24) := ⟨_, rfl, by decide, (mt6 _ (List.mem_of_getElem? (i := 218) (by decide +kernel)))⟩
theorem fl12_25 : (fun q : (Nat × Nat × Nat) => FLok 12 q.1 q.2.1 q.2.2) (272, 12, 25) := ⟨_, rfl, by decide, (mt6 _ (List.mem_of_getElem? (i := 219) (by decide +kernel)))⟩
theorem fl12_26 : (fun q : (Nat × Nat × Nat) => FLok 12 q.1 q.2.1 q.2.2) (329, 12, 26) := ⟨_, rfl, by decide, (mt6 _ (List.mem_of_getElem? (i := 220) (by decide +kernel)))⟩
theorem fl12_27 : (fun q : (Nat × Nat × Nat) => FLok 12 q.1 q.2.1 q.2.2) (453, 12, 27) := ⟨_, rfl, by decide, (mt6 _ (List.mem_of_getElem? (i := 221) (by decide +kernel)))⟩
theorem fl12_28 : (fun q : (Nat × Nat × Nat) => FLok 12 q.1 q.2.1 q.2.2) (473, 12, 28) := ⟨_, rfl, by decide, (mt6 _ (List.mem_of_getElem? (i := 222) (by decide +kernel)))⟩
theorem fl12_29 : (fun q : (Nat × Nat × Nat) => FLok 12 q.1 q.2.1 q.2.2) (476, 12, 29) := ⟨_, rfl, by decide, (mt6 _ (List.mem_of_getElem? (i := 223) (by decide +kernel)))⟩
theorem fl12_30 : (fun q : (Nat × Nat × Nat) => FLok 12 q.1 q.2.1 q.2.2) (47, 12, 30) := ⟨_, rfl, by decide, (mt6 _ (List.mem_of_getElem? (i := 224) (by decide +kernel)))⟩
theorem fl12_31 : (fun q : (Nat × Nat × Nat) => FLok 12 q.1 q.2.1 q.2.2) (50, 12, 31) := ⟨_, rfl, by decide, (mt6 _ (List.mem_of_getElem? (i := 225) (by decide +kernel)))⟩
theorem fl12_32 : (fun q : (Nat × Nat × Nat) => FLok 12 q.1 q.2.1 q.2.2) (53, 12, 32) := ⟨_, rfl, by decide, (mt6 _ (List.mem_of_getElem? (i := 226) (by decide +kernel)))⟩
theorem fl12_33 : (fun q : (Nat × Nat × Nat) => FLok 12 q.1 q.2.1 q.2.2) (549, 12, 33) := ⟨_, rfl, by decide, (mt6 _ (List.mem_of_getElem? (i := 227) (by decide +kernel)))⟩
theorem fl12_34 : (fun q : (Nat × Nat × Nat) => FLok 12 q.1 q.2.1 q.2.2) (522, 12, 34) := ⟨_, rfl, by decide, (mt6 _ (List.mem_of_getElem? (i := 228) (by decide +kernel)))⟩
theorem fl12_35 : (fun q : (Nat × Nat × Nat) => FLok 12 q.1 q.2.1 q.2.2) (497, 12, 35) := ⟨_, rfl, by decide, (mt6 _ (List.mem_of_getElem? (i := 229) (by decide +kernel)))⟩
theorem fl12_36 : (fun q : (Nat × Nat × Nat) => FLok 12 q.1 q.2.1 q.2.2) (519, 12, 36) := ⟨_, rfl, by decide, (mt6 _ (List.mem_of_getElem? (i := 230) (by decide +kernel)))⟩
theorem fl12_37 : (fun q : (Nat × Nat × Nat) => FLok 12 q.1 q.2.1 q.2.2) (529, 12, 37) := ⟨_, rfl, by decide, (mt6 _ (List.mem_of_getElem? (i := 231) (by decide +kernel)))⟩
theorem fl12_38 : (fun q : (Nat × Nat × Nat) => FLok 12 q.1 q.2.1 q.2.2) (504, 12, 38) := ⟨_, rfl, by decide, (mt6 _ (List.mem_of_getElem? (i := 232) (by decide +kernel)))⟩
theorem fl12_39 : (fun q : (Nat × Nat × Nat) => FLok 12 q.1 q.2.1 q.2.2) (501, 12, 39) := ⟨_, rfl, by decide, (mt6 _ (List.mem_of_getElem? (i := 233) (by decide +kernel)))⟩
theorem fl12_40 : (fun q : (Nat × Nat × Nat) => FLok 12 q.1 q.2.1 q.2.2) (516, 12, 40) := ⟨_, rfl, by decide, (mt6 _ (List.mem_of_getElem? (i := 234) (by decide +kernel)))⟩
theorem fl12_41 : (fun q : (Nat × Nat × Nat) => FLok 12 q.1 q.2.1 q.2.2) (526, 12, 41) := ⟨_, rfl, by decide, (mt6 _ (List.mem_of_getElem? (i := 235) (by decide +kernel)))⟩
theorem fl12_ok : ∀ q ∈ fl12, FLok 12 q.1 q.2.1 q.2.2 := List.forall_mem_cons.mpr ⟨fl12_0, List.forall_mem_cons.mpr ⟨fl12_1, List.forall_mem_cons.mpr ⟨fl12_2, List.forall_mem_cons.mpr ⟨fl12_3, List.forall_mem_cons.mpr ⟨fl12_4, List.forall_mem_cons.mpr ⟨fl12_5, List.forall_mem_cons.mpr ⟨fl12_6, List.forall_mem_cons.mpr ⟨fl12_7, List.forall_mem_cons.mpr ⟨fl12_8, List.forall_mem_cons.mpr ⟨fl12_9, List.forall_mem_cons.mpr ⟨fl12_10, List.forall_mem_cons.mpr ⟨fl12_11, List.forall_mem_cons.mpr ⟨fl12_12, List.forall_mem_cons.mpr ⟨fl12_13, List.forall_mem_cons.mpr ⟨fl12_14, List.forall_mem_cons.mpr ⟨fl12_15, List.forall_mem_cons.mpr ⟨fl12_16, List.forall_mem_cons.mpr ⟨fl12_17, List.forall_mem_cons.mpr ⟨fl12_18, List.forall_mem_cons.mpr ⟨fl12_19, List.forall_mem_cons.mpr ⟨fl12_20, List.forall_mem_cons.mpr ⟨fl12_21, List.forall_mem_cons.mpr ⟨fl12_22, List.forall_mem_cons.mpr ⟨fl12_23, List.forall_mem_cons.mpr ⟨fl12_24, List.forall_mem_cons.mpr ⟨fl12_25, List.forall_mem_cons.mpr ⟨fl12_26, List.forall_mem_cons.mpr ⟨fl12_27, List.forall_mem_cons.mpr ⟨fl12_28, List.forall_mem_cons.mpr ⟨fl12_29, List.forall_mem_cons.mpr ⟨fl12_30, List.forall_mem_cons.mpr ⟨fl12_31, List.forall_mem_cons.mpr ⟨fl12_32, List.forall_mem_cons.mpr ⟨fl12_33, List.forall_mem_cons.mpr ⟨fl12_34, List.forall_mem_cons.mpr ⟨fl12_35, List.forall_mem_cons.mpr ⟨fl12_36, List.forall_mem_cons.mpr ⟨fl12_37, List.forall_mem_cons.mpr ⟨fl12_38, List.forall_mem_cons.mpr ⟨fl12_39, List.forall_mem_cons.mpr ⟨fl12_40, List.forall_mem_cons.mpr ⟨fl12_41, fun _ h => absurd h List.not_mem_nil⟩⟩⟩⟩⟩⟩⟩⟩⟩⟩⟩⟩⟩⟩⟩⟩⟩⟩⟩⟩⟩⟩⟩⟩⟩⟩⟩⟩⟩⟩⟩⟩⟩⟩⟩⟩⟩⟩⟩⟩⟩⟩
def fl13 : List (Nat × Nat × Nat) := []
theorem fl13_ok : ∀ q ∈ fl13, FLok 13 q.1 q.2.1 q.2.2 := fun _ h => absurd h List.not_mem_nil
def fl14 : List (Nat × Nat × Nat) := []
theorem fl14_ok : ∀ q ∈ fl14, FLok 14 q.1 q.2.1 q.2.2 := fun _ h => absurd h List.not_mem_nil
def fl15 : List (Nat × Nat × Nat) := []
theorem fl15_ok : ∀ q ∈ fl15, FLok 15 q.1 q.2.1 q.2.2 := fun _ h => absurd h List.not_mem_nil
def flT : List (List (Nat × Nat × Nat)) := [fl0, fl1, fl2, fl3, fl4, fl5, fl6, fl7, fl8, fl9, fl10, fl11, fl12, fl13, fl14, fl15]
