/-! The program as data: printed by wip/whole/gen.py out of the claim's own text -/
def zz_R0 : String := "OneStageTwoPlays$ActReader"
def zz_T0 : u_T := fun k => match k with
  | _ => ("OneStageTwoPlays$ActReader", "open", "I", false)
def zz_y0 : Nat → FieldType := fun k => match k with
  | _ => .int
theorem zz_nm0 : ∀ a, a < 1 → ∀ b, b < 1 → a ≠ b → (zz_T0 a).2.1 ≠ (zz_T0 b).2.1 := by decide +kernel
theorem zz_ty0 : ∀ k, k < 1 → parseFieldDescriptor (zz_T0 k).2.2.1 = some (zz_y0 k) := by decide +kernel
theorem zz_in0 : ∀ w ∈ u_ws zz_R0 zz_T0 1, w ∈ zz_G := fun w h => zz_Gin ((by decide +kernel : ∀ w ∈ u_ws zz_R0 zz_T0 1, w ∈ lw_tbl) w h) ((by decide +kernel : ∀ w ∈ u_ws zz_R0 zz_T0 1, goodWord w = true) w h)
def zz_R1 : String := "OneStageTwoPlays$Changes"
def zz_T1 : u_T := fun k => match k with
  | 0 => ("OneStageTwoPlays$Changes", "code", "[I", true)
  | 1 => ("OneStageTwoPlays$Changes", "stack", "[I", true)
  | 2 => ("OneStageTwoPlays$Changes", "table", "[I", true)
  | 3 => ("OneStageTwoPlays$Changes", "codeSize", "I", false)
  | _ => ("OneStageTwoPlays$Changes", "fresh", "Z", false)
def zz_y1 : Nat → FieldType := fun k => match k with
  | 0 => .array .int
  | 1 => .array .int
  | 2 => .array .int
  | 3 => .int
  | _ => .boolean
theorem zz_nm1 : ∀ a, a < 5 → ∀ b, b < 5 → a ≠ b → (zz_T1 a).2.1 ≠ (zz_T1 b).2.1 := by decide +kernel
theorem zz_ty1 : ∀ k, k < 5 → parseFieldDescriptor (zz_T1 k).2.2.1 = some (zz_y1 k) := by decide +kernel
theorem zz_in1 : ∀ w ∈ u_ws zz_R1 zz_T1 5, w ∈ zz_G := fun w h => zz_Gin ((by decide +kernel : ∀ w ∈ u_ws zz_R1 zz_T1 5, w ∈ lw_tbl) w h) ((by decide +kernel : ∀ w ∈ u_ws zz_R1 zz_T1 5, goodWord w = true) w h)
def zz_R2 : String := "OneStageTwoPlays$Company"
def zz_T2 : u_T := fun k => match k with
  | 0 => ("OneStageTwoPlays$Company", "script", "LOneStageTwoPlays$Script;", true)
  | 1 => ("OneStageTwoPlays$Company", "weights", "[I", true)
  | _ => ("OneStageTwoPlays$Company", "leads", "[I", true)
def zz_y2 : Nat → FieldType := fun k => match k with
  | 0 => .object "OneStageTwoPlays$Script"
  | 1 => .array .int
  | _ => .array .int
theorem zz_nm2 : ∀ a, a < 3 → ∀ b, b < 3 → a ≠ b → (zz_T2 a).2.1 ≠ (zz_T2 b).2.1 := by decide +kernel
theorem zz_ty2 : ∀ k, k < 3 → parseFieldDescriptor (zz_T2 k).2.2.1 = some (zz_y2 k) := by decide +kernel
theorem zz_in2 : ∀ w ∈ u_ws zz_R2 zz_T2 3, w ∈ zz_G := fun w h => zz_Gin ((by decide +kernel : ∀ w ∈ u_ws zz_R2 zz_T2 3, w ∈ lw_tbl) w h) ((by decide +kernel : ∀ w ∈ u_ws zz_R2 zz_T2 3, goodWord w = true) w h)
def zz_R3 : String := "OneStageTwoPlays$LineReader"
def zz_T3 : u_T := fun k => match k with
  | 0 => ("OneStageTwoPlays$LineReader", "script", "LOneStageTwoPlays$Script;", true)
  | 1 => ("OneStageTwoPlays$LineReader", "step", "I", false)
  | 2 => ("OneStageTwoPlays$LineReader", "line", "I", false)
  | _ => ("OneStageTwoPlays$LineReader", "lines", "I", false)
def zz_y3 : Nat → FieldType := fun k => match k with
  | 0 => .object "OneStageTwoPlays$Script"
  | 1 => .int
  | 2 => .int
  | _ => .int
theorem zz_nm3 : ∀ a, a < 4 → ∀ b, b < 4 → a ≠ b → (zz_T3 a).2.1 ≠ (zz_T3 b).2.1 := by decide +kernel
theorem zz_ty3 : ∀ k, k < 4 → parseFieldDescriptor (zz_T3 k).2.2.1 = some (zz_y3 k) := by decide +kernel
theorem zz_in3 : ∀ w ∈ u_ws zz_R3 zz_T3 4, w ∈ zz_G := fun w h => zz_Gin ((by decide +kernel : ∀ w ∈ u_ws zz_R3 zz_T3 4, w ∈ lw_tbl) w h) ((by decide +kernel : ∀ w ∈ u_ws zz_R3 zz_T3 4, goodWord w = true) w h)
def zz_R4 : String := "OneStageTwoPlays$Loom"
def zz_T4 : u_T := fun k => match k with
  | 0 => ("OneStageTwoPlays$Loom", "script", "LOneStageTwoPlays$Script;", true)
  | 1 => ("OneStageTwoPlays$Loom", "cost", "[I", true)
  | 2 => ("OneStageTwoPlays$Loom", "order", "[I", true)
  | 3 => ("OneStageTwoPlays$Loom", "values", "[I", true)
  | 4 => ("OneStageTwoPlays$Loom", "turns", "[I", true)
  | 5 => ("OneStageTwoPlays$Loom", "turnsSize", "I", false)
  | 6 => ("OneStageTwoPlays$Loom", "firstSize", "I", false)
  | 7 => ("OneStageTwoPlays$Loom", "secondSize", "I", false)
  | 8 => ("OneStageTwoPlays$Loom", "firstLimit", "I", false)
  | 9 => ("OneStageTwoPlays$Loom", "secondLimit", "I", false)
  | 10 => ("OneStageTwoPlays$Loom", "cutSet", "I", false)
  | 11 => ("OneStageTwoPlays$Loom", "cutMinutes", "I", false)
  | 12 => ("OneStageTwoPlays$Loom", "cutCheer", "I", false)
  | 13 => ("OneStageTwoPlays$Loom", "cutCount", "I", false)
  | 14 => ("OneStageTwoPlays$Loom", "cutLimit", "I", false)
  | _ => ("OneStageTwoPlays$Loom", "leastChange", "I", false)
def zz_y4 : Nat → FieldType := fun k => match k with
  | 0 => .object "OneStageTwoPlays$Script"
  | 1 => .array .int
  | 2 => .array .int
  | 3 => .array .int
  | 4 => .array .int
  | 5 => .int
  | 6 => .int
  | 7 => .int
  | 8 => .int
  | 9 => .int
  | 10 => .int
  | 11 => .int
  | 12 => .int
  | 13 => .int
  | 14 => .int
  | _ => .int
theorem zz_nm4 : ∀ a, a < 16 → ∀ b, b < 16 → a ≠ b → (zz_T4 a).2.1 ≠ (zz_T4 b).2.1 := by decide +kernel
theorem zz_ty4 : ∀ k, k < 16 → parseFieldDescriptor (zz_T4 k).2.2.1 = some (zz_y4 k) := by decide +kernel
theorem zz_in4 : ∀ w ∈ u_ws zz_R4 zz_T4 16, w ∈ zz_G := fun w h => zz_Gin ((by decide +kernel : ∀ w ∈ u_ws zz_R4 zz_T4 16, w ∈ lw_tbl) w h) ((by decide +kernel : ∀ w ∈ u_ws zz_R4 zz_T4 16, goodWord w = true) w h)
def zz_R5 : String := "OneStageTwoPlays$Night"
def zz_T5 : u_T := fun k => match k with
  | 0 => ("OneStageTwoPlays$Night", "now", "I", false)
  | 1 => ("OneStageTwoPlays$Night", "last", "I", false)
  | 2 => ("OneStageTwoPlays$Night", "coming", "I", false)
  | 3 => ("OneStageTwoPlays$Night", "played", "I", false)
  | 4 => ("OneStageTwoPlays$Night", "dropped", "I", false)
  | 5 => ("OneStageTwoPlays$Night", "knownFirst", "I", false)
  | 6 => ("OneStageTwoPlays$Night", "knownSecond", "I", false)
  | 7 => ("OneStageTwoPlays$Night", "cheersFirst", "I", false)
  | _ => ("OneStageTwoPlays$Night", "cheersSecond", "I", false)
def zz_y5 : Nat → FieldType := fun k => match k with
  | 0 => .int
  | 1 => .int
  | 2 => .int
  | 3 => .int
  | 4 => .int
  | 5 => .int
  | 6 => .int
  | 7 => .int
  | _ => .int
theorem zz_nm5 : ∀ a, a < 9 → ∀ b, b < 9 → a ≠ b → (zz_T5 a).2.1 ≠ (zz_T5 b).2.1 := by decide +kernel
theorem zz_ty5 : ∀ k, k < 9 → parseFieldDescriptor (zz_T5 k).2.2.1 = some (zz_y5 k) := by decide +kernel
theorem zz_in5 : ∀ w ∈ u_ws zz_R5 zz_T5 9, w ∈ zz_G := fun w h => zz_Gin ((by decide +kernel : ∀ w ∈ u_ws zz_R5 zz_T5 9, w ∈ lw_tbl) w h) ((by decide +kernel : ∀ w ∈ u_ws zz_R5 zz_T5 9, goodWord w = true) w h)
def zz_R6 : String := "OneStageTwoPlays$Past"
def zz_T6 : u_T := fun k => match k with
  | 0 => ("OneStageTwoPlays$Past", "ring", "[LOneStageTwoPlays$Night;", true)
  | 1 => ("OneStageTwoPlays$Past", "shelf", "[LOneStageTwoPlays$Night;", true)
  | 2 => ("OneStageTwoPlays$Past", "shelved", "[Z", true)
  | 3 => ("OneStageTwoPlays$Past", "held", "LOneStageTwoPlays$Night;", true)
  | 4 => ("OneStageTwoPlays$Past", "top", "I", false)
  | _ => ("OneStageTwoPlays$Past", "size", "I", false)
def zz_y6 : Nat → FieldType := fun k => match k with
  | 0 => .array (.object "OneStageTwoPlays$Night")
  | 1 => .array (.object "OneStageTwoPlays$Night")
  | 2 => .array .boolean
  | 3 => .object "OneStageTwoPlays$Night"
  | 4 => .int
  | _ => .int
theorem zz_nm6 : ∀ a, a < 6 → ∀ b, b < 6 → a ≠ b → (zz_T6 a).2.1 ≠ (zz_T6 b).2.1 := by decide +kernel
theorem zz_ty6 : ∀ k, k < 6 → parseFieldDescriptor (zz_T6 k).2.2.1 = some (zz_y6 k) := by decide +kernel
theorem zz_in6 : ∀ w ∈ u_ws zz_R6 zz_T6 6, w ∈ zz_G := fun w h => zz_Gin ((by decide +kernel : ∀ w ∈ u_ws zz_R6 zz_T6 6, w ∈ lw_tbl) w h) ((by decide +kernel : ∀ w ∈ u_ws zz_R6 zz_T6 6, goodWord w = true) w h)
def zz_R7 : String := "OneStageTwoPlays$RuleReader"
def zz_T7 : u_T := fun k => match k with
  | 0 => ("OneStageTwoPlays$RuleReader", "code", "[I", true)
  | 1 => ("OneStageTwoPlays$RuleReader", "waiting", "[I", true)
  | 2 => ("OneStageTwoPlays$RuleReader", "codeSize", "I", false)
  | 3 => ("OneStageTwoPlays$RuleReader", "waitingSize", "I", false)
  | 4 => ("OneStageTwoPlays$RuleReader", "depth", "I", false)
  | 5 => ("OneStageTwoPlays$RuleReader", "comparedAt", "I", false)
  | 6 => ("OneStageTwoPlays$RuleReader", "digits", "I", false)
  | _ => ("OneStageTwoPlays$RuleReader", "wantsThing", "Z", false)
def zz_y7 : Nat → FieldType := fun k => match k with
  | 0 => .array .int
  | 1 => .array .int
  | 2 => .int
  | 3 => .int
  | 4 => .int
  | 5 => .int
  | 6 => .int
  | _ => .boolean
theorem zz_nm7 : ∀ a, a < 8 → ∀ b, b < 8 → a ≠ b → (zz_T7 a).2.1 ≠ (zz_T7 b).2.1 := by decide +kernel
theorem zz_ty7 : ∀ k, k < 8 → parseFieldDescriptor (zz_T7 k).2.2.1 = some (zz_y7 k) := by decide +kernel
theorem zz_in7 : ∀ w ∈ u_ws zz_R7 zz_T7 8, w ∈ zz_G := fun w h => zz_Gin ((by decide +kernel : ∀ w ∈ u_ws zz_R7 zz_T7 8, w ∈ lw_tbl) w h) ((by decide +kernel : ∀ w ∈ u_ws zz_R7 zz_T7 8, goodWord w = true) w h)
def zz_R8 : String := "OneStageTwoPlays$Script"
def zz_T8 : u_T := fun k => match k with
  | 0 => ("OneStageTwoPlays$Script", "fields", "[I", true)
  | 1 => ("OneStageTwoPlays$Script", "ofPlay", "[I", true)
  | _ => ("OneStageTwoPlays$Script", "size", "I", false)
def zz_y8 : Nat → FieldType := fun k => match k with
  | 0 => .array .int
  | 1 => .array .int
  | _ => .int
theorem zz_nm8 : ∀ a, a < 3 → ∀ b, b < 3 → a ≠ b → (zz_T8 a).2.1 ≠ (zz_T8 b).2.1 := by decide +kernel
theorem zz_ty8 : ∀ k, k < 3 → parseFieldDescriptor (zz_T8 k).2.2.1 = some (zz_y8 k) := by decide +kernel
theorem zz_in8 : ∀ w ∈ u_ws zz_R8 zz_T8 3, w ∈ zz_G := fun w h => zz_Gin ((by decide +kernel : ∀ w ∈ u_ws zz_R8 zz_T8 3, w ∈ lw_tbl) w h) ((by decide +kernel : ∀ w ∈ u_ws zz_R8 zz_T8 3, goodWord w = true) w h)
def zz_R9 : String := "OneStageTwoPlays$Story"
def zz_T9 : u_T := fun k => match k with
  | 0 => ("OneStageTwoPlays$Story", "script", "LOneStageTwoPlays$Script;", true)
  | 1 => ("OneStageTwoPlays$Story", "night", "LOneStageTwoPlays$Night;", true)
  | 2 => ("OneStageTwoPlays$Story", "mine", "[I", true)
  | _ => ("OneStageTwoPlays$Story", "most", "[I", false)
def zz_y9 : Nat → FieldType := fun k => match k with
  | 0 => .object "OneStageTwoPlays$Script"
  | 1 => .object "OneStageTwoPlays$Night"
  | 2 => .array .int
  | _ => .array .int
theorem zz_nm9 : ∀ a, a < 4 → ∀ b, b < 4 → a ≠ b → (zz_T9 a).2.1 ≠ (zz_T9 b).2.1 := by decide +kernel
theorem zz_ty9 : ∀ k, k < 4 → parseFieldDescriptor (zz_T9 k).2.2.1 = some (zz_y9 k) := by decide +kernel
theorem zz_in9 : ∀ w ∈ u_ws zz_R9 zz_T9 4, w ∈ zz_G := fun w h => zz_Gin ((by decide +kernel : ∀ w ∈ u_ws zz_R9 zz_T9 4, w ∈ lw_tbl) w h) ((by decide +kernel : ∀ w ∈ u_ws zz_R9 zz_T9 4, goodWord w = true) w h)
def zz_R10 : String := "OneStageTwoPlays"
def zz_T10 : u_T := fun k => match k with
  | 0 => ("OneStageTwoPlays", "text", "[C", true)
  | 1 => ("OneStageTwoPlays", "textSize", "I", false)
  | 2 => ("OneStageTwoPlays", "numbers", "[J", true)
  | 3 => ("OneStageTwoPlays", "numbersSize", "I", false)
  | 4 => ("OneStageTwoPlays", "script", "LOneStageTwoPlays$Script;", true)
  | 5 => ("OneStageTwoPlays", "night", "LOneStageTwoPlays$Night;", true)
  | 6 => ("OneStageTwoPlays", "past", "LOneStageTwoPlays$Past;", true)
  | 7 => ("OneStageTwoPlays", "changes", "LOneStageTwoPlays$Changes;", true)
  | 8 => ("OneStageTwoPlays", "otherChanges", "LOneStageTwoPlays$Changes;", true)
  | 9 => ("OneStageTwoPlays", "lineReader", "LOneStageTwoPlays$LineReader;", true)
  | 10 => ("OneStageTwoPlays", "ruleReader", "LOneStageTwoPlays$RuleReader;", true)
  | 11 => ("OneStageTwoPlays", "actReader", "LOneStageTwoPlays$ActReader;", true)
  | 12 => ("OneStageTwoPlays", "loom", "LOneStageTwoPlays$Loom;", true)
  | 13 => ("OneStageTwoPlays", "story", "LOneStageTwoPlays$Story;", true)
  | 14 => ("OneStageTwoPlays", "company", "LOneStageTwoPlays$Company;", true)
  | 15 => ("OneStageTwoPlays", "seen", "I", false)
  | _ => ("OneStageTwoPlays", "bowed", "I", false)
def zz_y10 : Nat → FieldType := fun k => match k with
  | 0 => .array .char
  | 1 => .int
  | 2 => .array .long
  | 3 => .int
  | 4 => .object "OneStageTwoPlays$Script"
  | 5 => .object "OneStageTwoPlays$Night"
  | 6 => .object "OneStageTwoPlays$Past"
  | 7 => .object "OneStageTwoPlays$Changes"
  | 8 => .object "OneStageTwoPlays$Changes"
  | 9 => .object "OneStageTwoPlays$LineReader"
  | 10 => .object "OneStageTwoPlays$RuleReader"
  | 11 => .object "OneStageTwoPlays$ActReader"
  | 12 => .object "OneStageTwoPlays$Loom"
  | 13 => .object "OneStageTwoPlays$Story"
  | 14 => .object "OneStageTwoPlays$Company"
  | 15 => .int
  | _ => .int
theorem zz_nm10 : ∀ a, a < 17 → ∀ b, b < 17 → a ≠ b → (zz_T10 a).2.1 ≠ (zz_T10 b).2.1 := by decide +kernel
theorem zz_ty10 : ∀ k, k < 17 → parseFieldDescriptor (zz_T10 k).2.2.1 = some (zz_y10 k) := by decide +kernel
theorem zz_in10 : ∀ w ∈ u_ws zz_R10 zz_T10 17, w ∈ zz_G := fun w h => zz_Gin ((by decide +kernel : ∀ w ∈ u_ws zz_R10 zz_T10 17, w ∈ lw_tbl) w h) ((by decide +kernel : ∀ w ∈ u_ws zz_R10 zz_T10 17, goodWord w = true) w h)
def zz_R11 : String := "OneStageTwoPlaysModel"
def zz_T11 : u_T := fun k => match k with
  | 0 => ("OneStageTwoPlaysModel", "now", "[I", true)
  | 1 => ("OneStageTwoPlaysModel", "scenes", "I", false)
  | 2 => ("OneStageTwoPlaysModel", "scene", "[I", true)
  | 3 => ("OneStageTwoPlaysModel", "text", "[B", true)
  | 4 => ("OneStageTwoPlaysModel", "typed", "I", false)
  | 5 => ("OneStageTwoPlaysModel", "row", "[J", true)
  | 6 => ("OneStageTwoPlaysModel", "rowMany", "I", false)
  | 7 => ("OneStageTwoPlaysModel", "thrown", "I", false)
  | 8 => ("OneStageTwoPlaysModel", "read", "[B", false)
  | 9 => ("OneStageTwoPlaysModel", "length", "I", false)
  | 10 => ("OneStageTwoPlaysModel", "top", "I", false)
  | 11 => ("OneStageTwoPlaysModel", "at", "I", false)
  | 12 => ("OneStageTwoPlaysModel", "wrong", "I", false)
  | 13 => ("OneStageTwoPlaysModel", "comes", "[I", true)
  | 14 => ("OneStageTwoPlaysModel", "rule", "[B", false)
  | 15 => ("OneStageTwoPlaysModel", "otherRule", "[B", false)
  | 16 => ("OneStageTwoPlaysModel", "ruleSize", "I", false)
  | 17 => ("OneStageTwoPlaysModel", "isAsked", "Z", false)
  | 18 => ("OneStageTwoPlaysModel", "asked", "[I", true)
  | 19 => ("OneStageTwoPlaysModel", "undos", "[I", true)
  | 20 => ("OneStageTwoPlaysModel", "undoMany", "I", false)
  | 21 => ("OneStageTwoPlaysModel", "aside", "[I", true)
  | 22 => ("OneStageTwoPlaysModel", "then", "[I", true)
  | 23 => ("OneStageTwoPlaysModel", "acts", "[I", true)
  | 24 => ("OneStageTwoPlaysModel", "line", "[I", true)
  | 25 => ("OneStageTwoPlaysModel", "bestLine", "[I", true)
  | 26 => ("OneStageTwoPlaysModel", "ends", "[I", true)
  | 27 => ("OneStageTwoPlaysModel", "fewest", "[I", true)
  | 28 => ("OneStageTwoPlaysModel", "weaveMany", "I", false)
  | 29 => ("OneStageTwoPlaysModel", "shortest", "I", false)
  | 30 => ("OneStageTwoPlaysModel", "longest", "I", false)
  | 31 => ("OneStageTwoPlaysModel", "byFirst", "[I", true)
  | 32 => ("OneStageTwoPlaysModel", "overIn", "[I", true)
  | 33 => ("OneStageTwoPlaysModel", "aheadOf", "[I", true)
  | 34 => ("OneStageTwoPlaysModel", "bounds", "[I", true)
  | 35 => ("OneStageTwoPlaysModel", "isFound", "Z", false)
  | 36 => ("OneStageTwoPlaysModel", "foundLine", "[I", true)
  | 37 => ("OneStageTwoPlaysModel", "table", "[I", true)
  | 38 => ("OneStageTwoPlaysModel", "firstList", "[I", true)
  | 39 => ("OneStageTwoPlaysModel", "secondList", "[I", true)
  | 40 => ("OneStageTwoPlaysModel", "mostBy", "[I", true)
  | 41 => ("OneStageTwoPlaysModel", "byMany", "[J", true)
  | 42 => ("OneStageTwoPlaysModel", "lead", "[I", true)
  | 43 => ("OneStageTwoPlaysModel", "seenBits", "I", false)
  | 44 => ("OneStageTwoPlaysModel", "bowed", "I", false)
  | 45 => ("OneStageTwoPlaysModel", "came", "I", false)
  | 46 => ("OneStageTwoPlaysModel", "kept", "[I", true)
  | 47 => ("OneStageTwoPlaysModel", "isKept", "[Z", true)
  | _ => ("OneStageTwoPlaysModel", "keptCame", "[I", true)
def zz_y11 : Nat → FieldType := fun k => match k with
  | 0 => .array .int
  | 1 => .int
  | 2 => .array .int
  | 3 => .array .byte
  | 4 => .int
  | 5 => .array .long
  | 6 => .int
  | 7 => .int
  | 8 => .array .byte
  | 9 => .int
  | 10 => .int
  | 11 => .int
  | 12 => .int
  | 13 => .array .int
  | 14 => .array .byte
  | 15 => .array .byte
  | 16 => .int
  | 17 => .boolean
  | 18 => .array .int
  | 19 => .array .int
  | 20 => .int
  | 21 => .array .int
  | 22 => .array .int
  | 23 => .array .int
  | 24 => .array .int
  | 25 => .array .int
  | 26 => .array .int
  | 27 => .array .int
  | 28 => .int
  | 29 => .int
  | 30 => .int
  | 31 => .array .int
  | 32 => .array .int
  | 33 => .array .int
  | 34 => .array .int
  | 35 => .boolean
  | 36 => .array .int
  | 37 => .array .int
  | 38 => .array .int
  | 39 => .array .int
  | 40 => .array .int
  | 41 => .array .long
  | 42 => .array .int
  | 43 => .int
  | 44 => .int
  | 45 => .int
  | 46 => .array .int
  | 47 => .array .boolean
  | _ => .array .int
theorem zz_nm11 : ∀ a, a < 49 → ∀ b, b < 49 → a ≠ b → (zz_T11 a).2.1 ≠ (zz_T11 b).2.1 := by decide +kernel
theorem zz_ty11 : ∀ k, k < 49 → parseFieldDescriptor (zz_T11 k).2.2.1 = some (zz_y11 k) := by decide +kernel
theorem zz_in11 : ∀ w ∈ u_ws zz_R11 zz_T11 49, w ∈ zz_G := fun w h => zz_Gin ((by decide +kernel : ∀ w ∈ u_ws zz_R11 zz_T11 49, w ∈ lw_tbl) w h) ((by decide +kernel : ∀ w ∈ u_ws zz_R11 zz_T11 49, goodWord w = true) w h)
def zz_cl : List vw_C := [(zz_R0, zz_T0, 1), (zz_R1, zz_T1, 5), (zz_R2, zz_T2, 3), (zz_R3, zz_T3, 4), (zz_R4, zz_T4, 16), (zz_R5, zz_T5, 9), (zz_R6, zz_T6, 6), (zz_R7, zz_T7, 8), (zz_R8, zz_T8, 3), (zz_R9, zz_T9, 4), (zz_R10, zz_T10, 17), (zz_R11, zz_T11, 49)]
def zz_y (k : Nat) : Nat → FieldType := match k with
  | 0 => zz_y0
  | 1 => zz_y1
  | 2 => zz_y2
  | 3 => zz_y3
  | 4 => zz_y4
  | 5 => zz_y5
  | 6 => zz_y6
  | 7 => zz_y7
  | 8 => zz_y8
  | 9 => zz_y9
  | 10 => zz_y10
  | _ => zz_y11
def zz_N (k : Nat) : Nat := match k with
  | 0 => 1
  | 1 => 5
  | 2 => 3
  | 3 => 4
  | 4 => 16
  | 5 => 9
  | 6 => 6
  | 7 => 8
  | 8 => 3
  | 9 => 4
  | 10 => 17
  | _ => 49
theorem zz_clN : ∀ (k : Nat) (q : vw_C), zz_cl[k]? = some q → q.2.2 = zz_N k := by
  intro k q h
  match k, h with
  | 0, h => cases h; rfl
  | 1, h => cases h; rfl
  | 2, h => cases h; rfl
  | 3, h => cases h; rfl
  | 4, h => cases h; rfl
  | 5, h => cases h; rfl
  | 6, h => cases h; rfl
  | 7, h => cases h; rfl
  | 8, h => cases h; rfl
  | 9, h => cases h; rfl
  | 10, h => cases h; rfl
  | 11, h => cases h; rfl
  | k + 12, h => simp [zz_cl] at h
theorem zz_clIn : ∀ (k : Nat) (q : vw_C), zz_cl[k]? = some q → ∀ w ∈ u_ws q.1 q.2.1 q.2.2, w ∈ zz_G := by
  intro k q h
  match k, h with
  | 0, h => cases h; exact zz_in0
  | 1, h => cases h; exact zz_in1
  | 2, h => cases h; exact zz_in2
  | 3, h => cases h; exact zz_in3
  | 4, h => cases h; exact zz_in4
  | 5, h => cases h; exact zz_in5
  | 6, h => cases h; exact zz_in6
  | 7, h => cases h; exact zz_in7
  | 8, h => cases h; exact zz_in8
  | 9, h => cases h; exact zz_in9
  | 10, h => cases h; exact zz_in10
  | 11, h => cases h; exact zz_in11
  | k + 12, h => simp [zz_cl] at h
theorem zz_clTy : ∀ (k : Nat) (q : vw_C), zz_cl[k]? = some q → ∀ i, i < q.2.2 → parseFieldDescriptor (q.2.1 i).2.2.1 = some (zz_y k i) := by
  intro k q h
  match k, h with
  | 0, h => cases h; exact zz_ty0
  | 1, h => cases h; exact zz_ty1
  | 2, h => cases h; exact zz_ty2
  | 3, h => cases h; exact zz_ty3
  | 4, h => cases h; exact zz_ty4
  | 5, h => cases h; exact zz_ty5
  | 6, h => cases h; exact zz_ty6
  | 7, h => cases h; exact zz_ty7
  | 8, h => cases h; exact zz_ty8
  | 9, h => cases h; exact zz_ty9
  | 10, h => cases h; exact zz_ty10
  | 11, h => cases h; exact zz_ty11
  | k + 12, h => simp [zz_cl] at h
theorem zz_clNm : ∀ (k : Nat) (q : vw_C), zz_cl[k]? = some q → ∀ a, a < q.2.2 → ∀ b, b < q.2.2 → a ≠ b → (q.2.1 a).2.1 ≠ (q.2.1 b).2.1 := by
  intro k q h
  match k, h with
  | 0, h => cases h; exact zz_nm0
  | 1, h => cases h; exact zz_nm1
  | 2, h => cases h; exact zz_nm2
  | 3, h => cases h; exact zz_nm3
  | 4, h => cases h; exact zz_nm4
  | 5, h => cases h; exact zz_nm5
  | 6, h => cases h; exact zz_nm6
  | 7, h => cases h; exact zz_nm7
  | 8, h => cases h; exact zz_nm8
  | 9, h => cases h; exact zz_nm9
  | 10, h => cases h; exact zz_nm10
  | 11, h => cases h; exact zz_nm11
  | k + 12, h => simp [zz_cl] at h
/-- an instruction: its place, itself, what it is resolved to -/
abbrev zz_i : Type := Nat × Jvm.ClassFile.Instr × Nat × Nat × Nat
/-- a method: name, bytes, locals, what it returns, its blocks (from, to, instructions) -/
abbrev zz_MI : Type := MethodName × ByteArray × Nat × Option FieldType × List (Nat × Nat × List zz_i)
/-- 0: X0_init <init>()V  -/
def zm_0 : zz_MI := (⟨"OneStageTwoPlays$ActReader", "<init>", "()V"⟩, prog_2_method_1_code, 1, none, [(0, 5, ([(0, .aload_n 0, 0, 0, 0), (1, .invokespecial 1, 96, 1, 1), (4, .return_, 0, 0, 0)] : List zz_i))])
/-- 1: X0_begin begin()V  -/
def zm_1 : zz_MI := (⟨"OneStageTwoPlays$ActReader", "begin", "()V"⟩, prog_2_method_2_code, 1, none, [(0, 6, ([(0, .aload_n 0, 0, 0, 0), (1, .iconst 0, 0, 0, 0), (2, .putfield 7, 0, 0, 0), (5, .return_, 0, 0, 0)] : List zz_i))])
/-- 2: X0_mayEnd mayEnd()Z  -/
def zm_2 : zz_MI := (⟨"OneStageTwoPlays$ActReader", "mayEnd", "()Z"⟩, prog_2_method_3_code, 1, (some .boolean), [(0, 11, ([(0, .aload_n 0, 0, 0, 0), (1, .getfield 7, 0, 0, 0), (4, .ifCond .ne 7, 0, 0, 0), (7, .iconst 1, 0, 0, 0), (8, .goto 4, 0, 0, 0)] : List zz_i)),
  (11, 12, ([(11, .iconst 0, 0, 0, 0)] : List zz_i)),
  (12, 13, ([(12, .ireturn, 0, 0, 0)] : List zz_i))])
/-- 3: X0_takes takes(I)Z  -/
def zm_3 : zz_MI := (⟨"OneStageTwoPlays$ActReader", "takes", "(I)Z"⟩, prog_2_method_4_code, 2, (some .boolean), [(0, 30, ([(0, .aload_n 0, 0, 0, 0), (1, .getfield 7, 0, 0, 0), (4, .bipush 120, 0, 0, 0), (6, .if_icmp .ne 26, 0, 0, 0), (9, .aload_n 0, 0, 0, 0), (10, .iconst 0, 0, 0, 0), (11, .putfield 7, 0, 0, 0), (14, .iload_n 1, 0, 0, 0), (15, .bipush 97, 0, 0, 0), (17, .if_icmp .lt 13, 0, 0, 0), (20, .iload_n 1, 0, 0, 0), (21, .bipush 108, 0, 0, 0), (23, .if_icmp .gt 7, 0, 0, 0), (26, .iconst 1, 0, 0, 0), (27, .goto 4, 0, 0, 0)] : List zz_i)),
  (30, 31, ([(30, .iconst 0, 0, 0, 0)] : List zz_i)),
  (31, 32, ([(31, .ireturn, 0, 0, 0)] : List zz_i)),
  (32, 62, ([(32, .aload_n 0, 0, 0, 0), (33, .getfield 7, 0, 0, 0), (36, .bipush 119, 0, 0, 0), (38, .if_icmp .ne 26, 0, 0, 0), (41, .aload_n 0, 0, 0, 0), (42, .iconst 0, 0, 0, 0), (43, .putfield 7, 0, 0, 0), (46, .iload_n 1, 0, 0, 0), (47, .bipush 48, 0, 0, 0), (49, .if_icmp .lt 13, 0, 0, 0), (52, .iload_n 1, 0, 0, 0), (53, .bipush 57, 0, 0, 0), (55, .if_icmp .gt 7, 0, 0, 0), (58, .iconst 1, 0, 0, 0), (59, .goto 4, 0, 0, 0)] : List zz_i)),
  (62, 63, ([(62, .iconst 0, 0, 0, 0)] : List zz_i)),
  (63, 64, ([(63, .ireturn, 0, 0, 0)] : List zz_i)),
  (64, 76, ([(64, .iload_n 1, 0, 0, 0), (65, .bipush 120, 0, 0, 0), (67, .if_icmp .eq 9, 0, 0, 0), (70, .iload_n 1, 0, 0, 0), (71, .bipush 119, 0, 0, 0), (73, .if_icmp .ne 10, 0, 0, 0)] : List zz_i)),
  (76, 83, ([(76, .aload_n 0, 0, 0, 0), (77, .iload_n 1, 0, 0, 0), (78, .putfield 7, 0, 0, 0), (81, .iconst 1, 0, 0, 0), (82, .ireturn, 0, 0, 0)] : List zz_i)),
  (83, 95, ([(83, .iload_n 1, 0, 0, 0), (84, .bipush 48, 0, 0, 0), (86, .if_icmp .eq 9, 0, 0, 0), (89, .iload_n 1, 0, 0, 0), (90, .bipush 49, 0, 0, 0), (92, .if_icmp .ne 7, 0, 0, 0)] : List zz_i)),
  (95, 99, ([(95, .iconst 1, 0, 0, 0), (96, .goto 4, 0, 0, 0)] : List zz_i)),
  (99, 100, ([(99, .iconst 0, 0, 0, 0)] : List zz_i)),
  (100, 101, ([(100, .ireturn, 0, 0, 0)] : List zz_i))])
/-- 4: X1_init <init>()V  -/
def zm_4 : zz_MI := (⟨"OneStageTwoPlays$Changes", "<init>", "()V"⟩, prog_3_method_1_code, 1, none, [(0, 34, ([(0, .aload_n 0, 0, 0, 0), (1, .invokespecial 3, 999, 1, 0), (4, .aload_n 0, 0, 0, 0), (5, .bipush 40, 0, 0, 0), (7, .newarray .int, 0, 0, 0), (9, .putfield 9, 1, 0, 0), (12, .aload_n 0, 0, 0, 0), (13, .bipush 40, 0, 0, 0), (15, .newarray .int, 0, 0, 0), (17, .putfield 15, 1, 1, 0), (20, .aload_n 0, 0, 0, 0), (21, .sipush 144, 0, 0, 0), (24, .newarray .int, 0, 0, 0), (26, .putfield 18, 1, 2, 0), (29, .aload_n 0, 0, 0, 0), (30, .invokevirtual 21, 5, 1, 1), (33, .return_, 0, 0, 0)] : List zz_i))])
/-- 5: X1_takePlain takePlain()V  -/
def zm_5 : zz_MI := (⟨"OneStageTwoPlays$Changes", "takePlain", "()V"⟩, prog_3_method_2_code, 1, none, [(0, 12, ([(0, .aload_n 0, 0, 0, 0), (1, .getstatic 24, 0, 0, 0), (4, .getstatic 24, 0, 0, 0), (7, .arraylength, 0, 0, 0), (8, .invokevirtual 27, 7, 3, 1), (11, .return_, 0, 0, 0)] : List zz_i))])
/-- 6: X1_takeFrom takeFrom(LOneStageTwoPlays$RuleReader;)V  -/
def zm_6 : zz_MI := (⟨"OneStageTwoPlays$Changes", "takeFrom", "(LOneStageTwoPlays$RuleReader;)V"⟩, prog_3_method_3_code, 2, none, [(0, 13, ([(0, .aload_n 0, 0, 0, 0), (1, .aload_n 1, 0, 0, 0), (2, .getfield 31, 7, 0, 1), (5, .aload_n 1, 0, 0, 0), (6, .getfield 34, 7, 2, 1), (9, .invokevirtual 27, 7, 3, 1), (12, .return_, 0, 0, 0)] : List zz_i))])
/-- 7: X1_takeCode takeCode([II)V  -/
def zm_7 : zz_MI := (⟨"OneStageTwoPlays$Changes", "takeCode", "([II)V"⟩, prog_3_method_4_code, 4, none, [(0, 20, ([(0, .aload_n 0, 0, 0, 0), (1, .iload_n 2, 0, 0, 0), (2, .aload_n 1, 0, 0, 0), (3, .arraylength, 0, 0, 0), (4, .aload_n 0, 0, 0, 0), (5, .getfield 9, 1, 0, 0), (8, .arraylength, 0, 0, 0), (9, .invokestatic 38, 310, 2, 0), (12, .invokestatic 38, 310, 2, 0), (15, .putfield 44, 1, 3, 0), (18, .iconst 0, 0, 0, 0), (19, .istore_n 3, 0, 0, 0)] : List zz_i)),
  (20, 43, ([(20, .iload_n 3, 0, 0, 0), (21, .aload_n 0, 0, 0, 0), (22, .getfield 44, 1, 3, 0), (25, .if_icmp .ge 18, 0, 0, 0), (28, .aload_n 0, 0, 0, 0), (29, .getfield 9, 1, 0, 0), (32, .iload_n 3, 0, 0, 0), (33, .aload_n 1, 0, 0, 0), (34, .iload_n 3, 0, 0, 0), (35, .iaload, 0, 0, 0), (36, .iastore, 0, 0, 0), (37, .iinc 3 1, 0, 0, 0), (40, .goto (-20), 0, 0, 0)] : List zz_i)),
  (43, 49, ([(43, .aload_n 0, 0, 0, 0), (44, .iconst 0, 0, 0, 0), (45, .putfield 45, 1, 4, 0), (48, .return_, 0, 0, 0)] : List zz_i))])
/-- 8: X1_growStale growStale()V  -/
def zm_8 : zz_MI := (⟨"OneStageTwoPlays$Changes", "growStale", "()V"⟩, prog_3_method_5_code, 1, none, [(0, 6, ([(0, .aload_n 0, 0, 0, 0), (1, .iconst 0, 0, 0, 0), (2, .putfield 45, 1, 4, 0), (5, .return_, 0, 0, 0)] : List zz_i))])
/-- 9: X1_refresh refresh(LOneStageTwoPlays$Script;)V  -/
def zm_9 : zz_MI := (⟨"OneStageTwoPlays$Changes", "refresh", "(LOneStageTwoPlays$Script;)V"⟩, prog_3_method_6_code, 6, none, [(0, 8, ([(0, .aload_n 0, 0, 0, 0), (1, .getfield 45, 1, 4, 0), (4, .ifCond .eq 4, 0, 0, 0), (7, .return_, 0, 0, 0)] : List zz_i)),
  (8, 20, ([(8, .aload_n 1, 0, 0, 0), (9, .getfield 49, 8, 2, 1), (12, .bipush 12, 0, 0, 0), (14, .invokestatic 38, 310, 2, 0), (17, .istore_n 2, 0, 0, 0), (18, .iconst 0, 0, 0, 0), (19, .istore_n 3, 0, 0, 0)] : List zz_i)),
  (20, 28, ([(20, .iload_n 3, 0, 0, 0), (21, .iload_n 2, 0, 0, 0), (22, .if_icmp .ge 57, 0, 0, 0), (25, .iconst 0, 0, 0, 0), (26, .istore 4, 0, 0, 0)] : List zz_i)),
  (28, 73, ([(28, .iload 4, 0, 0, 0), (30, .iload_n 2, 0, 0, 0), (31, .if_icmp .ge 42, 0, 0, 0), (34, .aload_n 0, 0, 0, 0), (35, .aload_n 1, 0, 0, 0), (36, .iload_n 3, 0, 0, 0), (37, .iload 4, 0, 0, 0), (39, .invokevirtual 54, 11, 4, 1), (42, .istore 5, 0, 0, 0), (44, .aload_n 0, 0, 0, 0), (45, .getfield 18, 1, 2, 0), (48, .iload_n 3, 0, 0, 0), (49, .bipush 12, 0, 0, 0), (51, .imul, 0, 0, 0), (52, .iload 4, 0, 0, 0), (54, .iadd, 0, 0, 0), (55, .iconst 0, 0, 0, 0), (56, .bipush 99, 0, 0, 0), (58, .iload 5, 0, 0, 0), (60, .invokestatic 38, 310, 2, 0), (63, .invokestatic 58, 309, 2, 0), (66, .iastore, 0, 0, 0), (67, .iinc 4 1, 0, 0, 0), (70, .goto (-42), 0, 0, 0)] : List zz_i)),
  (73, 79, ([(73, .iinc 3 1, 0, 0, 0), (76, .goto (-56), 0, 0, 0)] : List zz_i)),
  (79, 85, ([(79, .aload_n 0, 0, 0, 0), (80, .iconst 1, 0, 0, 0), (81, .putfield 45, 1, 4, 0), (84, .return_, 0, 0, 0)] : List zz_i))])
/-- 10: X1_between between(II)I  -/
def zm_10 : zz_MI := (⟨"OneStageTwoPlays$Changes", "between", "(II)I"⟩, prog_3_method_7_code, 3, (some .int), [(0, 20, ([(0, .iload_n 1, 0, 0, 0), (1, .ifCond .lt 19, 0, 0, 0), (4, .iload_n 1, 0, 0, 0), (5, .bipush 12, 0, 0, 0), (7, .if_icmp .ge 13, 0, 0, 0), (10, .iload_n 2, 0, 0, 0), (11, .ifCond .lt 9, 0, 0, 0), (14, .iload_n 2, 0, 0, 0), (15, .bipush 12, 0, 0, 0), (17, .if_icmp .lt 5, 0, 0, 0)] : List zz_i)),
  (20, 22, ([(20, .iconst 0, 0, 0, 0), (21, .ireturn, 0, 0, 0)] : List zz_i)),
  (22, 34, ([(22, .aload_n 0, 0, 0, 0), (23, .getfield 18, 1, 2, 0), (26, .iload_n 1, 0, 0, 0), (27, .bipush 12, 0, 0, 0), (29, .imul, 0, 0, 0), (30, .iload_n 2, 0, 0, 0), (31, .iadd, 0, 0, 0), (32, .iaload, 0, 0, 0), (33, .ireturn, 0, 0, 0)] : List zz_i))])
/-- 11: X1_worth worth(LOneStageTwoPlays$Script;II)I  -/
def zm_11 : zz_MI := (⟨"OneStageTwoPlays$Changes", "worth", "(LOneStageTwoPlays$Script;II)I"⟩, prog_3_method_8_code, 7, (some .int), [(0, 6, ([(0, .iconst 0, 0, 0, 0), (1, .istore 4, 0, 0, 0), (3, .iconst 0, 0, 0, 0), (4, .istore 5, 0, 0, 0)] : List zz_i)),
  (6, 52, ([(6, .iload 5, 0, 0, 0), (8, .aload_n 0, 0, 0, 0), (9, .getfield 44, 1, 3, 0), (12, .if_icmp .ge 173, 0, 0, 0), (15, .iload 5, 0, 0, 0), (17, .aload_n 0, 0, 0, 0), (18, .getfield 9, 1, 0, 0), (21, .arraylength, 0, 0, 0), (22, .if_icmp .ge 163, 0, 0, 0), (25, .aload_n 0, 0, 0, 0), (26, .getfield 9, 1, 0, 0), (29, .iload 5, 0, 0, 0), (31, .iaload, 0, 0, 0), (32, .istore 6, 0, 0, 0), (34, .iload 6, 0, 0, 0), (36, .ifCond .lt 16, 0, 0, 0), (39, .aload_n 0, 0, 0, 0), (40, .iload 4, 0, 0, 0), (42, .iload 6, 0, 0, 0), (44, .invokevirtual 61, 12, 3, 1), (47, .istore 4, 0, 0, 0), (49, .goto 130, 0, 0, 0)] : List zz_i)),
  (52, 81, ([(52, .iload 6, 0, 0, 0), (54, .ineg, 0, 0, 0), (55, .invokestatic 64, 101, 1, 0), (58, .ifCond .eq 23, 0, 0, 0), (61, .aload_n 0, 0, 0, 0), (62, .iload 4, 0, 0, 0), (64, .aload_n 1, 0, 0, 0), (65, .iload 6, 0, 0, 0), (67, .ineg, 0, 0, 0), (68, .iload_n 2, 0, 0, 0), (69, .iload_n 3, 0, 0, 0), (70, .invokestatic 68, 13, 4, 0), (73, .invokevirtual 61, 12, 3, 1), (76, .istore 4, 0, 0, 0), (78, .goto 101, 0, 0, 0)] : List zz_i)),
  (81, 127, ([(81, .iload 6, 0, 0, 0), (83, .sipush (-256), 0, 0, 0), (86, .if_icmp .ne 41, 0, 0, 0), (89, .iload 4, 0, 0, 0), (91, .iconst 1, 0, 0, 0), (92, .if_icmp .lt 87, 0, 0, 0), (95, .iload 4, 0, 0, 0), (97, .aload_n 0, 0, 0, 0), (98, .getfield 15, 1, 1, 0), (101, .arraylength, 0, 0, 0), (102, .if_icmp .gt 77, 0, 0, 0), (105, .aload_n 0, 0, 0, 0), (106, .getfield 15, 1, 1, 0), (109, .iload 4, 0, 0, 0), (111, .iconst 1, 0, 0, 0), (112, .isub, 0, 0, 0), (113, .aload_n 0, 0, 0, 0), (114, .getfield 15, 1, 1, 0), (117, .iload 4, 0, 0, 0), (119, .iconst 1, 0, 0, 0), (120, .isub, 0, 0, 0), (121, .iaload, 0, 0, 0), (122, .ineg, 0, 0, 0), (123, .iastore, 0, 0, 0), (124, .goto 55, 0, 0, 0)] : List zz_i)),
  (127, 179, ([(127, .iload 4, 0, 0, 0), (129, .iconst 2, 0, 0, 0), (130, .if_icmp .lt 49, 0, 0, 0), (133, .iload 4, 0, 0, 0), (135, .aload_n 0, 0, 0, 0), (136, .getfield 15, 1, 1, 0), (139, .arraylength, 0, 0, 0), (140, .if_icmp .gt 39, 0, 0, 0), (143, .aload_n 0, 0, 0, 0), (144, .getfield 15, 1, 1, 0), (147, .iload 4, 0, 0, 0), (149, .iconst 2, 0, 0, 0), (150, .isub, 0, 0, 0), (151, .iload 6, 0, 0, 0), (153, .ineg, 0, 0, 0), (154, .aload_n 0, 0, 0, 0), (155, .getfield 15, 1, 1, 0), (158, .iload 4, 0, 0, 0), (160, .iconst 2, 0, 0, 0), (161, .isub, 0, 0, 0), (162, .iaload, 0, 0, 0), (163, .aload_n 0, 0, 0, 0), (164, .getfield 15, 1, 1, 0), (167, .iload 4, 0, 0, 0), (169, .iconst 1, 0, 0, 0), (170, .isub, 0, 0, 0), (171, .iaload, 0, 0, 0), (172, .invokestatic 72, 14, 3, 0), (175, .iastore, 0, 0, 0), (176, .iinc 4 (-1), 0, 0, 0)] : List zz_i)),
  (179, 185, ([(179, .iinc 5 1, 0, 0, 0), (182, .goto (-176), 0, 0, 0)] : List zz_i)),
  (185, 199, ([(185, .iload 4, 0, 0, 0), (187, .ifCond .le 12, 0, 0, 0), (190, .aload_n 0, 0, 0, 0), (191, .getfield 15, 1, 1, 0), (194, .iconst 0, 0, 0, 0), (195, .iaload, 0, 0, 0), (196, .goto 4, 0, 0, 0)] : List zz_i)),
  (199, 200, ([(199, .iconst 0, 0, 0, 0)] : List zz_i)),
  (200, 201, ([(200, .ireturn, 0, 0, 0)] : List zz_i))])
/-- 12: X1_pushed pushed(II)I  -/
def zm_12 : zz_MI := (⟨"OneStageTwoPlays$Changes", "pushed", "(II)I"⟩, prog_3_method_9_code, 3, (some .int), [(0, 13, ([(0, .iload_n 1, 0, 0, 0), (1, .ifCond .lt 12, 0, 0, 0), (4, .iload_n 1, 0, 0, 0), (5, .aload_n 0, 0, 0, 0), (6, .getfield 15, 1, 1, 0), (9, .arraylength, 0, 0, 0), (10, .if_icmp .lt 5, 0, 0, 0)] : List zz_i)),
  (13, 15, ([(13, .iload_n 1, 0, 0, 0), (14, .ireturn, 0, 0, 0)] : List zz_i)),
  (15, 26, ([(15, .aload_n 0, 0, 0, 0), (16, .getfield 15, 1, 1, 0), (19, .iload_n 1, 0, 0, 0), (20, .iload_n 2, 0, 0, 0), (21, .iastore, 0, 0, 0), (22, .iload_n 1, 0, 0, 0), (23, .iconst 1, 0, 0, 0), (24, .iadd, 0, 0, 0), (25, .ireturn, 0, 0, 0)] : List zz_i))])
/-- 13: X1_thing thing(LOneStageTwoPlays$Script;III)I  -/
def zm_13 : zz_MI := (⟨"OneStageTwoPlays$Changes", "thing", "(LOneStageTwoPlays$Script;III)I"⟩, prog_3_method_10_code, 4, (some .int), [(0, 40, ([(0, .iload_n 1, 0, 0, 0), (1, .tableswitch 108 108 113 #[101, 94, 108, 39, 60, 77], 0, 0, 39)] : List zz_i)),
  (40, 59, ([(40, .aload_n 0, 0, 0, 0), (41, .iload_n 2, 0, 0, 0), (42, .iconst 0, 0, 0, 0), (43, .invokevirtual 76, 114, 3, 8), (46, .aload_n 0, 0, 0, 0), (47, .iload_n 3, 0, 0, 0), (48, .iconst 0, 0, 0, 0), (49, .invokevirtual 76, 114, 3, 8), (52, .if_icmp .ne 7, 0, 0, 0), (55, .iconst 0, 0, 0, 0), (56, .goto 4, 0, 0, 0)] : List zz_i)),
  (59, 60, ([(59, .iconst 1, 0, 0, 0)] : List zz_i)),
  (60, 61, ([(60, .ireturn, 0, 0, 0)] : List zz_i)),
  (61, 78, ([(61, .aload_n 0, 0, 0, 0), (62, .iload_n 2, 0, 0, 0), (63, .iconst 2, 0, 0, 0), (64, .invokevirtual 76, 114, 3, 8), (67, .aload_n 0, 0, 0, 0), (68, .iload_n 3, 0, 0, 0), (69, .iconst 2, 0, 0, 0), (70, .invokevirtual 76, 114, 3, 8), (73, .iand, 0, 0, 0), (74, .invokestatic 79, 308, 1, 0), (77, .ireturn, 0, 0, 0)] : List zz_i)),
  (78, 95, ([(78, .aload_n 0, 0, 0, 0), (79, .iload_n 2, 0, 0, 0), (80, .iconst 3, 0, 0, 0), (81, .invokevirtual 76, 114, 3, 8), (84, .aload_n 0, 0, 0, 0), (85, .iload_n 3, 0, 0, 0), (86, .iconst 3, 0, 0, 0), (87, .invokevirtual 76, 114, 3, 8), (90, .ixor, 0, 0, 0), (91, .invokestatic 79, 308, 1, 0), (94, .ireturn, 0, 0, 0)] : List zz_i)),
  (95, 102, ([(95, .aload_n 0, 0, 0, 0), (96, .iload_n 3, 0, 0, 0), (97, .iconst 1, 0, 0, 0), (98, .invokevirtual 76, 114, 3, 8), (101, .ireturn, 0, 0, 0)] : List zz_i)),
  (102, 109, ([(102, .aload_n 0, 0, 0, 0), (103, .iload_n 2, 0, 0, 0), (104, .iconst 1, 0, 0, 0), (105, .invokevirtual 76, 114, 3, 8), (108, .ireturn, 0, 0, 0)] : List zz_i)),
  (109, 119, ([(109, .aload_n 0, 0, 0, 0), (110, .iload_n 3, 0, 0, 0), (111, .iconst 2, 0, 0, 0), (112, .invokevirtual 76, 114, 3, 8), (115, .invokestatic 79, 308, 1, 0), (118, .ireturn, 0, 0, 0)] : List zz_i))])
/-- 14: X1_joined joined(III)I  -/
def zm_14 : zz_MI := (⟨"OneStageTwoPlays$Changes", "joined", "(III)I"⟩, prog_3_method_11_code, 3, (some .int), [(0, 60, ([(0, .iload_n 0, 0, 0, 0), (1, .lookupswitch 105 #[(42, 67), (43, 59), (45, 63), (47, 71), (60, 83), (62, 94)], 0, 0, 59)] : List zz_i)),
  (60, 64, ([(60, .iload_n 1, 0, 0, 0), (61, .iload_n 2, 0, 0, 0), (62, .iadd, 0, 0, 0), (63, .ireturn, 0, 0, 0)] : List zz_i)),
  (64, 68, ([(64, .iload_n 1, 0, 0, 0), (65, .iload_n 2, 0, 0, 0), (66, .isub, 0, 0, 0), (67, .ireturn, 0, 0, 0)] : List zz_i)),
  (68, 72, ([(68, .iload_n 1, 0, 0, 0), (69, .iload_n 2, 0, 0, 0), (70, .imul, 0, 0, 0), (71, .ireturn, 0, 0, 0)] : List zz_i)),
  (72, 80, ([(72, .iload_n 2, 0, 0, 0), (73, .ifCond .ne 7, 0, 0, 0), (76, .iconst 0, 0, 0, 0), (77, .goto 6, 0, 0, 0)] : List zz_i)),
  (80, 83, ([(80, .iload_n 1, 0, 0, 0), (81, .iload_n 2, 0, 0, 0), (82, .idiv, 0, 0, 0)] : List zz_i)),
  (83, 84, ([(83, .ireturn, 0, 0, 0)] : List zz_i)),
  (84, 93, ([(84, .iload_n 1, 0, 0, 0), (85, .iload_n 2, 0, 0, 0), (86, .if_icmp .ge 7, 0, 0, 0), (89, .iconst 1, 0, 0, 0), (90, .goto 4, 0, 0, 0)] : List zz_i)),
  (93, 94, ([(93, .iconst 0, 0, 0, 0)] : List zz_i)),
  (94, 95, ([(94, .ireturn, 0, 0, 0)] : List zz_i)),
  (95, 104, ([(95, .iload_n 1, 0, 0, 0), (96, .iload_n 2, 0, 0, 0), (97, .if_icmp .le 7, 0, 0, 0), (100, .iconst 1, 0, 0, 0), (101, .goto 4, 0, 0, 0)] : List zz_i)),
  (104, 105, ([(104, .iconst 0, 0, 0, 0)] : List zz_i)),
  (105, 106, ([(105, .ireturn, 0, 0, 0)] : List zz_i)),
  (106, 115, ([(106, .iload_n 1, 0, 0, 0), (107, .iload_n 2, 0, 0, 0), (108, .if_icmp .ne 7, 0, 0, 0), (111, .iconst 1, 0, 0, 0), (112, .goto 4, 0, 0, 0)] : List zz_i)),
  (115, 116, ([(115, .iconst 0, 0, 0, 0)] : List zz_i)),
  (116, 117, ([(116, .ireturn, 0, 0, 0)] : List zz_i))])
/-- 15: X2_init <init>(LOneStageTwoPlays$Script;)V  -/
def zm_15 : zz_MI := (⟨"OneStageTwoPlays$Company", "<init>", "(LOneStageTwoPlays$Script;)V"⟩, prog_4_method_1_code, 2, none, [(0, 26, ([(0, .aload_n 0, 0, 0, 0), (1, .invokespecial 3, 999, 1, 0), (4, .aload_n 0, 0, 0, 0), (5, .bipush 13, 0, 0, 0), (7, .newarray .int, 0, 0, 0), (9, .putfield 9, 2, 1, 0), (12, .aload_n 0, 0, 0, 0), (13, .bipush 41, 0, 0, 0), (15, .newarray .int, 0, 0, 0), (17, .putfield 15, 2, 2, 0), (20, .aload_n 0, 0, 0, 0), (21, .aload_n 1, 0, 0, 0), (22, .putfield 18, 2, 0, 0), (25, .return_, 0, 0, 0)] : List zz_i))])
/-- 16: X2_scenesWith scenesWith(I)I  -/
def zm_16 : zz_MI := (⟨"OneStageTwoPlays$Company", "scenesWith", "(I)I"⟩, prog_4_method_2_code, 4, (some .int), [(0, 4, ([(0, .iconst 0, 0, 0, 0), (1, .istore_n 2, 0, 0, 0), (2, .iconst 0, 0, 0, 0), (3, .istore_n 3, 0, 0, 0)] : List zz_i)),
  (4, 35, ([(4, .iload_n 3, 0, 0, 0), (5, .aload_n 0, 0, 0, 0), (6, .getfield 18, 2, 0, 0), (9, .getfield 22, 8, 2, 1), (12, .if_icmp .ge 29, 0, 0, 0), (15, .aload_n 0, 0, 0, 0), (16, .getfield 18, 2, 0, 0), (19, .iload_n 3, 0, 0, 0), (20, .iconst 2, 0, 0, 0), (21, .invokevirtual 28, 114, 3, 8), (24, .iload_n 1, 0, 0, 0), (25, .iand, 0, 0, 0), (26, .ifCond .eq 9, 0, 0, 0), (29, .iload_n 2, 0, 0, 0), (30, .iconst 1, 0, 0, 0), (31, .iload_n 3, 0, 0, 0), (32, .ishl, 0, 0, 0), (33, .ior, 0, 0, 0), (34, .istore_n 2, 0, 0, 0)] : List zz_i)),
  (35, 41, ([(35, .iinc 3 1, 0, 0, 0), (38, .goto (-34), 0, 0, 0)] : List zz_i)),
  (41, 43, ([(41, .iload_n 2, 0, 0, 0), (42, .ireturn, 0, 0, 0)] : List zz_i))])
/-- 17: X2_propsInAll propsInAll(I)I  -/
def zm_17 : zz_MI := (⟨"OneStageTwoPlays$Company", "propsInAll", "(I)I"⟩, prog_4_method_3_code, 4, (some .int), [(0, 5, ([(0, .bipush 15, 0, 0, 0), (2, .istore_n 2, 0, 0, 0), (3, .iconst 0, 0, 0, 0), (4, .istore_n 3, 0, 0, 0)] : List zz_i)),
  (5, 37, ([(5, .iload_n 3, 0, 0, 0), (6, .aload_n 0, 0, 0, 0), (7, .getfield 18, 2, 0, 0), (10, .getfield 22, 8, 2, 1), (13, .if_icmp .ge 30, 0, 0, 0), (16, .iload_n 1, 0, 0, 0), (17, .iload_n 3, 0, 0, 0), (18, .ishr, 0, 0, 0), (19, .iconst 1, 0, 0, 0), (20, .iand, 0, 0, 0), (21, .iconst 1, 0, 0, 0), (22, .if_icmp .ne 15, 0, 0, 0), (25, .iload_n 2, 0, 0, 0), (26, .aload_n 0, 0, 0, 0), (27, .getfield 18, 2, 0, 0), (30, .iload_n 3, 0, 0, 0), (31, .iconst 3, 0, 0, 0), (32, .invokevirtual 28, 114, 3, 8), (35, .iand, 0, 0, 0), (36, .istore_n 2, 0, 0, 0)] : List zz_i)),
  (37, 43, ([(37, .iinc 3 1, 0, 0, 0), (40, .goto (-35), 0, 0, 0)] : List zz_i)),
  (43, 45, ([(43, .iload_n 2, 0, 0, 0), (44, .ireturn, 0, 0, 0)] : List zz_i))])
/-- 18: X2_fewestAsked fewestAsked(I)I  -/
def zm_18 : zz_MI := (⟨"OneStageTwoPlays$Company", "fewestAsked", "(I)I"⟩, prog_4_method_4_code, 6, (some .int), [(0, 16, ([(0, .iload_n 1, 0, 0, 0), (1, .aload_n 0, 0, 0, 0), (2, .bipush 63, 0, 0, 0), (4, .invokevirtual 32, 16, 2, 2), (7, .iand, 0, 0, 0), (8, .istore_n 2, 0, 0, 0), (9, .bipush 63, 0, 0, 0), (11, .istore_n 3, 0, 0, 0), (12, .bipush 63, 0, 0, 0), (14, .istore 4, 0, 0, 0)] : List zz_i)),
  (16, 38, ([(16, .iload 4, 0, 0, 0), (18, .ifCond .lt 49, 0, 0, 0), (21, .iload_n 2, 0, 0, 0), (22, .aload_n 0, 0, 0, 0), (23, .iload 4, 0, 0, 0), (25, .invokevirtual 32, 16, 2, 2), (28, .iconst (-1), 0, 0, 0), (29, .ixor, 0, 0, 0), (30, .iand, 0, 0, 0), (31, .ifCond .ne 7, 0, 0, 0), (34, .iconst 1, 0, 0, 0), (35, .goto 4, 0, 0, 0)] : List zz_i)),
  (38, 39, ([(38, .iconst 0, 0, 0, 0)] : List zz_i)),
  (39, 61, ([(39, .istore 5, 0, 0, 0), (41, .iload 5, 0, 0, 0), (43, .ifCond .eq 18, 0, 0, 0), (46, .iload 4, 0, 0, 0), (48, .invokestatic 36, 308, 1, 0), (51, .iload_n 3, 0, 0, 0), (52, .invokestatic 36, 308, 1, 0), (55, .if_icmp .gt 6, 0, 0, 0), (58, .iload 4, 0, 0, 0), (60, .istore_n 3, 0, 0, 0)] : List zz_i)),
  (61, 67, ([(61, .iinc 4 (-1), 0, 0, 0), (64, .goto (-48), 0, 0, 0)] : List zz_i)),
  (67, 69, ([(67, .iload_n 3, 0, 0, 0), (68, .ireturn, 0, 0, 0)] : List zz_i))])
/-- 19: X2_weighCounts weighCounts(II)V  -/
def zm_19 : zz_MI := (⟨"OneStageTwoPlays$Company", "weighCounts", "(II)V"⟩, prog_4_method_5_code, 6, none, [(0, 2, ([(0, .iconst 0, 0, 0, 0), (1, .istore_n 3, 0, 0, 0)] : List zz_i)),
  (2, 24, ([(2, .iload_n 3, 0, 0, 0), (3, .aload_n 0, 0, 0, 0), (4, .getfield 9, 2, 1, 0), (7, .arraylength, 0, 0, 0), (8, .if_icmp .ge 16, 0, 0, 0), (11, .aload_n 0, 0, 0, 0), (12, .getfield 9, 2, 1, 0), (15, .iload_n 3, 0, 0, 0), (16, .iconst 0, 0, 0, 0), (17, .iastore, 0, 0, 0), (18, .iinc 3 1, 0, 0, 0), (21, .goto (-19), 0, 0, 0)] : List zz_i)),
  (24, 26, ([(24, .iconst 0, 0, 0, 0), (25, .istore_n 3, 0, 0, 0)] : List zz_i)),
  (26, 78, ([(26, .iload_n 3, 0, 0, 0), (27, .bipush 64, 0, 0, 0), (29, .if_icmp .ge 55, 0, 0, 0), (32, .iload_n 1, 0, 0, 0), (33, .aload_n 0, 0, 0, 0), (34, .bipush 63, 0, 0, 0), (36, .iload_n 3, 0, 0, 0), (37, .isub, 0, 0, 0), (38, .invokevirtual 32, 16, 2, 2), (41, .iconst (-1), 0, 0, 0), (42, .ixor, 0, 0, 0), (43, .iand, 0, 0, 0), (44, .istore 4, 0, 0, 0), (46, .iload 4, 0, 0, 0), (48, .invokestatic 36, 308, 1, 0), (51, .istore 5, 0, 0, 0), (53, .iload 5, 0, 0, 0), (55, .aload_n 0, 0, 0, 0), (56, .getfield 9, 2, 1, 0), (59, .arraylength, 0, 0, 0), (60, .if_icmp .ge 18, 0, 0, 0), (63, .aload_n 0, 0, 0, 0), (64, .getfield 9, 2, 1, 0), (67, .iload 5, 0, 0, 0), (69, .dup2, 0, 0, 0), (70, .iaload, 0, 0, 0), (71, .iload_n 3, 0, 0, 0), (72, .iload_n 2, 0, 0, 0), (73, .invokestatic 41, 20, 2, 0), (76, .iadd, 0, 0, 0), (77, .iastore, 0, 0, 0)] : List zz_i)),
  (78, 84, ([(78, .iinc 3 1, 0, 0, 0), (81, .goto (-55), 0, 0, 0)] : List zz_i)),
  (84, 85, ([(84, .return_, 0, 0, 0)] : List zz_i))])
/-- 20: X2_weightOfSet weightOfSet(II)I  -/
def zm_20 : zz_MI := (⟨"OneStageTwoPlays$Company", "weightOfSet", "(II)I"⟩, prog_4_method_6_code, 4, (some .int), [(0, 4, ([(0, .iconst 1, 0, 0, 0), (1, .istore_n 2, 0, 0, 0), (2, .iconst 0, 0, 0, 0), (3, .istore_n 3, 0, 0, 0)] : List zz_i)),
  (4, 27, ([(4, .iload_n 3, 0, 0, 0), (5, .bipush 6, 0, 0, 0), (7, .if_icmp .ge 29, 0, 0, 0), (10, .iload_n 2, 0, 0, 0), (11, .iload_n 0, 0, 0, 0), (12, .iload_n 3, 0, 0, 0), (13, .ishr, 0, 0, 0), (14, .iconst 1, 0, 0, 0), (15, .iand, 0, 0, 0), (16, .iconst 1, 0, 0, 0), (17, .if_icmp .ne 10, 0, 0, 0), (20, .bipush 10, 0, 0, 0), (22, .iload_n 1, 0, 0, 0), (23, .isub, 0, 0, 0), (24, .goto 4, 0, 0, 0)] : List zz_i)),
  (27, 28, ([(27, .iload_n 1, 0, 0, 0)] : List zz_i)),
  (28, 36, ([(28, .imul, 0, 0, 0), (29, .istore_n 2, 0, 0, 0), (30, .iinc 3 1, 0, 0, 0), (33, .goto (-29), 0, 0, 0)] : List zz_i)),
  (36, 38, ([(36, .iload_n 2, 0, 0, 0), (37, .ireturn, 0, 0, 0)] : List zz_i))])
/-- 21: X2_heaviestCount heaviestCount()I  -/
def zm_21 : zz_MI := (⟨"OneStageTwoPlays$Company", "heaviestCount", "()I"⟩, prog_4_method_7_code, 3, (some .int), [(0, 4, ([(0, .iconst 0, 0, 0, 0), (1, .istore_n 1, 0, 0, 0), (2, .iconst 1, 0, 0, 0), (3, .istore_n 2, 0, 0, 0)] : List zz_i)),
  (4, 30, ([(4, .iload_n 2, 0, 0, 0), (5, .aload_n 0, 0, 0, 0), (6, .getfield 9, 2, 1, 0), (9, .arraylength, 0, 0, 0), (10, .if_icmp .ge 26, 0, 0, 0), (13, .aload_n 0, 0, 0, 0), (14, .getfield 9, 2, 1, 0), (17, .iload_n 2, 0, 0, 0), (18, .iaload, 0, 0, 0), (19, .aload_n 0, 0, 0, 0), (20, .getfield 9, 2, 1, 0), (23, .iload_n 1, 0, 0, 0), (24, .iaload, 0, 0, 0), (25, .if_icmp .le 5, 0, 0, 0), (28, .iload_n 2, 0, 0, 0), (29, .istore_n 1, 0, 0, 0)] : List zz_i)),
  (30, 36, ([(30, .iinc 2 1, 0, 0, 0), (33, .goto (-29), 0, 0, 0)] : List zz_i)),
  (36, 38, ([(36, .iload_n 1, 0, 0, 0), (37, .ireturn, 0, 0, 0)] : List zz_i))])
/-- 22: X2_weightOf weightOf(I)I  -/
def zm_22 : zz_MI := (⟨"OneStageTwoPlays$Company", "weightOf", "(I)I"⟩, prog_4_method_8_code, 2, (some .int), [(0, 22, ([(0, .iload_n 1, 0, 0, 0), (1, .ifCond .lt 21, 0, 0, 0), (4, .iload_n 1, 0, 0, 0), (5, .aload_n 0, 0, 0, 0), (6, .getfield 9, 2, 1, 0), (9, .arraylength, 0, 0, 0), (10, .if_icmp .ge 12, 0, 0, 0), (13, .aload_n 0, 0, 0, 0), (14, .getfield 9, 2, 1, 0), (17, .iload_n 1, 0, 0, 0), (18, .iaload, 0, 0, 0), (19, .goto 4, 0, 0, 0)] : List zz_i)),
  (22, 23, ([(22, .iconst 0, 0, 0, 0)] : List zz_i)),
  (23, 24, ([(23, .ireturn, 0, 0, 0)] : List zz_i))])
/-- 23: X2_weightOfAll weightOfAll()I  -/
def zm_23 : zz_MI := (⟨"OneStageTwoPlays$Company", "weightOfAll", "()I"⟩, prog_4_method_9_code, 3, (some .int), [(0, 4, ([(0, .iconst 1, 0, 0, 0), (1, .istore_n 1, 0, 0, 0), (2, .iconst 0, 0, 0, 0), (3, .istore_n 2, 0, 0, 0)] : List zz_i)),
  (4, 21, ([(4, .iload_n 2, 0, 0, 0), (5, .bipush 6, 0, 0, 0), (7, .if_icmp .ge 14, 0, 0, 0), (10, .iload_n 1, 0, 0, 0), (11, .bipush 10, 0, 0, 0), (13, .imul, 0, 0, 0), (14, .istore_n 1, 0, 0, 0), (15, .iinc 2 1, 0, 0, 0), (18, .goto (-14), 0, 0, 0)] : List zz_i)),
  (21, 23, ([(21, .iload_n 1, 0, 0, 0), (22, .ireturn, 0, 0, 0)] : List zz_i))])
/-- 24: X2_share share(III)I  -/
def zm_24 : zz_MI := (⟨"OneStageTwoPlays$Company", "share", "(III)I"⟩, prog_4_method_10_code, 4, (some .int), [(0, 9, ([(0, .iload_n 1, 0, 0, 0), (1, .iload_n 2, 0, 0, 0), (2, .iadd, 0, 0, 0), (3, .iload_n 0, 0, 0, 0), (4, .if_icmp .gt 5, 0, 0, 0), (7, .iload_n 1, 0, 0, 0), (8, .ireturn, 0, 0, 0)] : List zz_i)),
  (9, 27, ([(9, .iload_n 0, 0, 0, 0), (10, .iconst 2, 0, 0, 0), (11, .idiv, 0, 0, 0), (12, .istore_n 3, 0, 0, 0), (13, .iconst 0, 0, 0, 0), (14, .iload_n 3, 0, 0, 0), (15, .iconst 0, 0, 0, 0), (16, .iload_n 1, 0, 0, 0), (17, .iload_n 3, 0, 0, 0), (18, .isub, 0, 0, 0), (19, .invokestatic 44, 309, 2, 0), (22, .isub, 0, 0, 0), (23, .invokestatic 44, 309, 2, 0), (26, .ireturn, 0, 0, 0)] : List zz_i))])
/-- 25: X2_atRest atRest(III)Z  -/
def zm_25 : zz_MI := (⟨"OneStageTwoPlays$Company", "atRest", "(III)Z"⟩, prog_4_method_11_code, 7, (some .boolean), [(0, 19, ([(0, .iload_n 1, 0, 0, 0), (1, .iload_n 2, 0, 0, 0), (2, .iload_n 3, 0, 0, 0), (3, .invokestatic 49, 24, 3, 0), (6, .istore 4, 0, 0, 0), (8, .iload_n 1, 0, 0, 0), (9, .iload_n 3, 0, 0, 0), (10, .iload_n 2, 0, 0, 0), (11, .invokestatic 49, 24, 3, 0), (14, .istore 5, 0, 0, 0), (16, .iconst 0, 0, 0, 0), (17, .istore 6, 0, 0, 0)] : List zz_i)),
  (19, 49, ([(19, .iload 6, 0, 0, 0), (21, .iload_n 1, 0, 0, 0), (22, .if_icmp .gt 35, 0, 0, 0), (25, .iload_n 1, 0, 0, 0), (26, .iload 6, 0, 0, 0), (28, .iload_n 3, 0, 0, 0), (29, .invokestatic 49, 24, 3, 0), (32, .iload 4, 0, 0, 0), (34, .if_icmp .gt 15, 0, 0, 0), (37, .iload_n 1, 0, 0, 0), (38, .iload 6, 0, 0, 0), (40, .iload_n 2, 0, 0, 0), (41, .invokestatic 49, 24, 3, 0), (44, .iload 5, 0, 0, 0), (46, .if_icmp .le 5, 0, 0, 0)] : List zz_i)),
  (49, 51, ([(49, .iconst 0, 0, 0, 0), (50, .ireturn, 0, 0, 0)] : List zz_i)),
  (51, 57, ([(51, .iinc 6 1, 0, 0, 0), (54, .goto (-35), 0, 0, 0)] : List zz_i)),
  (57, 59, ([(57, .iconst 1, 0, 0, 0), (58, .ireturn, 0, 0, 0)] : List zz_i))])
/-- 26: X2_fillLeads fillLeads(I)V  -/
def zm_26 : zz_MI := (⟨"OneStageTwoPlays$Company", "fillLeads", "(I)V"⟩, prog_4_method_12_code, 3, none, [(0, 2, ([(0, .iconst 1, 0, 0, 0), (1, .istore_n 2, 0, 0, 0)] : List zz_i)),
  (2, 38, ([(2, .iload_n 2, 0, 0, 0), (3, .iload_n 1, 0, 0, 0), (4, .if_icmp .gt 34, 0, 0, 0), (7, .iload_n 2, 0, 0, 0), (8, .aload_n 0, 0, 0, 0), (9, .getfield 15, 2, 2, 0), (12, .arraylength, 0, 0, 0), (13, .if_icmp .ge 25, 0, 0, 0), (16, .aload_n 0, 0, 0, 0), (17, .getfield 15, 2, 2, 0), (20, .iload_n 2, 0, 0, 0), (21, .aload_n 0, 0, 0, 0), (22, .iload_n 2, 0, 0, 0), (23, .aload_n 0, 0, 0, 0), (24, .iload_n 2, 0, 0, 0), (25, .invokevirtual 53, 29, 2, 2), (28, .invokevirtual 56, 28, 3, 2), (31, .iastore, 0, 0, 0), (32, .iinc 2 1, 0, 0, 0), (35, .goto (-33), 0, 0, 0)] : List zz_i)),
  (38, 39, ([(38, .return_, 0, 0, 0)] : List zz_i))])
/-- 27: X2_leadWith leadWith(I)I  -/
def zm_27 : zz_MI := (⟨"OneStageTwoPlays$Company", "leadWith", "(I)I"⟩, prog_4_method_13_code, 2, (some .int), [(0, 22, ([(0, .iload_n 1, 0, 0, 0), (1, .ifCond .lt 21, 0, 0, 0), (4, .iload_n 1, 0, 0, 0), (5, .aload_n 0, 0, 0, 0), (6, .getfield 15, 2, 2, 0), (9, .arraylength, 0, 0, 0), (10, .if_icmp .ge 12, 0, 0, 0), (13, .aload_n 0, 0, 0, 0), (14, .getfield 15, 2, 2, 0), (17, .iload_n 1, 0, 0, 0), (18, .iaload, 0, 0, 0), (19, .goto 4, 0, 0, 0)] : List zz_i)),
  (22, 23, ([(22, .iconst 0, 0, 0, 0)] : List zz_i)),
  (23, 24, ([(23, .ireturn, 0, 0, 0)] : List zz_i))])
/-- 28: X2_leadByTaking leadByTaking(II)I  -/
def zm_28 : zz_MI := (⟨"OneStageTwoPlays$Company", "leadByTaking", "(II)I"⟩, prog_4_method_14_code, 3, (some .int), [(0, 11, ([(0, .iload_n 2, 0, 0, 0), (1, .iload_n 1, 0, 0, 0), (2, .if_icmp .ne 9, 0, 0, 0), (5, .iload_n 2, 0, 0, 0), (6, .iconst 4, 0, 0, 0), (7, .isub, 0, 0, 0), (8, .goto 12, 0, 0, 0)] : List zz_i)),
  (11, 20, ([(11, .iload_n 2, 0, 0, 0), (12, .aload_n 0, 0, 0, 0), (13, .iload_n 1, 0, 0, 0), (14, .iload_n 2, 0, 0, 0), (15, .isub, 0, 0, 0), (16, .invokevirtual 59, 27, 2, 2), (19, .isub, 0, 0, 0)] : List zz_i)),
  (20, 21, ([(20, .ireturn, 0, 0, 0)] : List zz_i))])
/-- 29: X2_firstTake firstTake(I)I  -/
def zm_29 : zz_MI := (⟨"OneStageTwoPlays$Company", "firstTake", "(I)I"⟩, prog_4_method_15_code, 4, (some .int), [(0, 4, ([(0, .iconst 1, 0, 0, 0), (1, .istore_n 2, 0, 0, 0), (2, .iconst 2, 0, 0, 0), (3, .istore_n 3, 0, 0, 0)] : List zz_i)),
  (4, 31, ([(4, .iload_n 3, 0, 0, 0), (5, .iconst 3, 0, 0, 0), (6, .if_icmp .gt 31, 0, 0, 0), (9, .iload_n 3, 0, 0, 0), (10, .iload_n 1, 0, 0, 0), (11, .if_icmp .gt 26, 0, 0, 0), (14, .aload_n 0, 0, 0, 0), (15, .iload_n 1, 0, 0, 0), (16, .iload_n 3, 0, 0, 0), (17, .invokevirtual 56, 28, 3, 2), (20, .aload_n 0, 0, 0, 0), (21, .iload_n 1, 0, 0, 0), (22, .iload_n 2, 0, 0, 0), (23, .invokevirtual 56, 28, 3, 2), (26, .if_icmp .le 5, 0, 0, 0), (29, .iload_n 3, 0, 0, 0), (30, .istore_n 2, 0, 0, 0)] : List zz_i)),
  (31, 37, ([(31, .iinc 3 1, 0, 0, 0), (34, .goto (-30), 0, 0, 0)] : List zz_i)),
  (37, 39, ([(37, .iload_n 2, 0, 0, 0), (38, .ireturn, 0, 0, 0)] : List zz_i))])
/-- 30: X2_fitting fitting(II)I  -/
def zm_30 : zz_MI := (⟨"OneStageTwoPlays$Company", "fitting", "(II)I"⟩, prog_4_method_16_code, 5, (some .int), [(0, 5, ([(0, .iconst 0, 0, 0, 0), (1, .istore_n 3, 0, 0, 0), (2, .iconst 0, 0, 0, 0), (3, .istore 4, 0, 0, 0)] : List zz_i)),
  (5, 40, ([(5, .iload 4, 0, 0, 0), (7, .aload_n 0, 0, 0, 0), (8, .getfield 18, 2, 0, 0), (11, .getfield 22, 8, 2, 1), (14, .if_icmp .ge 32, 0, 0, 0), (17, .aload_n 0, 0, 0, 0), (18, .getfield 18, 2, 0, 0), (21, .iload 4, 0, 0, 0), (23, .iconst 2, 0, 0, 0), (24, .invokevirtual 28, 114, 3, 8), (27, .iload_n 1, 0, 0, 0), (28, .iand, 0, 0, 0), (29, .iload_n 2, 0, 0, 0), (30, .if_icmp .ne 10, 0, 0, 0), (33, .iload_n 3, 0, 0, 0), (34, .iconst 1, 0, 0, 0), (35, .iload 4, 0, 0, 0), (37, .ishl, 0, 0, 0), (38, .ior, 0, 0, 0), (39, .istore_n 3, 0, 0, 0)] : List zz_i)),
  (40, 46, ([(40, .iinc 4 1, 0, 0, 0), (43, .goto (-38), 0, 0, 0)] : List zz_i)),
  (46, 48, ([(46, .iload_n 3, 0, 0, 0), (47, .ireturn, 0, 0, 0)] : List zz_i))])
/-- 31: X2_mostLeft mostLeft(II)I  -/
def zm_31 : zz_MI := (⟨"OneStageTwoPlays$Company", "mostLeft", "(II)I"⟩, prog_4_method_17_code, 4, (some .int), [(0, 24, ([(0, .iload_n 1, 0, 0, 0), (1, .aload_n 0, 0, 0, 0), (2, .iconst 1, 0, 0, 0), (3, .iload_n 2, 0, 0, 0), (4, .ishl, 0, 0, 0), (5, .invokevirtual 32, 16, 2, 2), (8, .iand, 0, 0, 0), (9, .invokestatic 36, 308, 1, 0), (12, .istore_n 3, 0, 0, 0), (13, .iload_n 3, 0, 0, 0), (14, .iload_n 1, 0, 0, 0), (15, .invokestatic 36, 308, 1, 0), (18, .iload_n 3, 0, 0, 0), (19, .isub, 0, 0, 0), (20, .invokestatic 44, 309, 2, 0), (23, .ireturn, 0, 0, 0)] : List zz_i))])
/-- 32: X3_init <init>(LOneStageTwoPlays$Script;)V  -/
def zm_32 : zz_MI := (⟨"OneStageTwoPlays$LineReader", "<init>", "(LOneStageTwoPlays$Script;)V"⟩, prog_5_method_1_code, 2, none, [(0, 10, ([(0, .aload_n 0, 0, 0, 0), (1, .invokespecial 3, 96, 1, 1), (4, .aload_n 0, 0, 0, 0), (5, .aload_n 1, 0, 0, 0), (6, .putfield 9, 3, 0, 0), (9, .return_, 0, 0, 0)] : List zz_i))])
/-- 33: X3_lineCount lineCount()I  -/
def zm_33 : zz_MI := (⟨"OneStageTwoPlays$LineReader", "lineCount", "()I"⟩, prog_5_method_2_code, 1, (some .int), [(0, 5, ([(0, .aload_n 0, 0, 0, 0), (1, .getfield 15, 3, 3, 0), (4, .ireturn, 0, 0, 0)] : List zz_i))])
/-- 34: X3_begin begin()V  -/
def zm_34 : zz_MI := (⟨"OneStageTwoPlays$LineReader", "begin", "()V"⟩, prog_5_method_3_code, 1, none, [(0, 22, ([(0, .aload_n 0, 0, 0, 0), (1, .iconst 0, 0, 0, 0), (2, .putfield 19, 3, 1, 0), (5, .aload_n 0, 0, 0, 0), (6, .aload_n 0, 0, 0, 0), (7, .getfield 9, 3, 0, 0), (10, .getfield 22, 8, 2, 1), (13, .putfield 27, 3, 2, 0), (16, .aload_n 0, 0, 0, 0), (17, .iconst 0, 0, 0, 0), (18, .putfield 15, 3, 3, 0), (21, .return_, 0, 0, 0)] : List zz_i))])
/-- 35: X3_mayEnd mayEnd()Z  -/
def zm_35 : zz_MI := (⟨"OneStageTwoPlays$LineReader", "mayEnd", "()Z"⟩, prog_5_method_4_code, 1, (some .boolean), [(0, 13, ([(0, .aload_n 0, 0, 0, 0), (1, .getfield 19, 3, 1, 0), (4, .bipush 9, 0, 0, 0), (6, .if_icmp .ne 7, 0, 0, 0), (9, .iconst 1, 0, 0, 0), (10, .goto 4, 0, 0, 0)] : List zz_i)),
  (13, 14, ([(13, .iconst 0, 0, 0, 0)] : List zz_i)),
  (14, 15, ([(14, .ireturn, 0, 0, 0)] : List zz_i))])
/-- 36: X3_takes takes(I)Z  -/
def zm_36 : zz_MI := (⟨"OneStageTwoPlays$LineReader", "takes", "(I)Z"⟩, prog_5_method_5_code, 2, (some .boolean), [(0, 60, ([(0, .aload_n 0, 0, 0, 0), (1, .getfield 19, 3, 1, 0), (4, .tableswitch 165 0 9 #[56, 62, 75, 105, 127, 165, 140, 165, 153, 159], 0, 0, 56)] : List zz_i)),
  (60, 66, ([(60, .aload_n 0, 0, 0, 0), (61, .iload_n 1, 0, 0, 0), (62, .invokevirtual 30, 37, 2, 3), (65, .ireturn, 0, 0, 0)] : List zz_i)),
  (66, 79, ([(66, .aload_n 0, 0, 0, 0), (67, .iload_n 1, 0, 0, 0), (68, .bipush 49, 0, 0, 0), (70, .bipush 57, 0, 0, 0), (72, .iconst 1, 0, 0, 0), (73, .bipush 48, 0, 0, 0), (75, .invokevirtual 34, 38, 6, 3), (78, .ireturn, 0, 0, 0)] : List zz_i)),
  (79, 103, ([(79, .aload_n 0, 0, 0, 0), (80, .iload_n 1, 0, 0, 0), (81, .invokevirtual 38, 39, 2, 3), (84, .ifCond .ne 19, 0, 0, 0), (87, .aload_n 0, 0, 0, 0), (88, .iload_n 1, 0, 0, 0), (89, .invokevirtual 41, 40, 2, 3), (92, .ifCond .ne 11, 0, 0, 0), (95, .aload_n 0, 0, 0, 0), (96, .iload_n 1, 0, 0, 0), (97, .invokevirtual 44, 42, 2, 3), (100, .ifCond .eq 7, 0, 0, 0)] : List zz_i)),
  (103, 107, ([(103, .iconst 1, 0, 0, 0), (104, .goto 4, 0, 0, 0)] : List zz_i)),
  (107, 108, ([(107, .iconst 0, 0, 0, 0)] : List zz_i)),
  (108, 109, ([(108, .ireturn, 0, 0, 0)] : List zz_i)),
  (109, 125, ([(109, .aload_n 0, 0, 0, 0), (110, .iload_n 1, 0, 0, 0), (111, .invokevirtual 41, 40, 2, 3), (114, .ifCond .ne 11, 0, 0, 0), (117, .aload_n 0, 0, 0, 0), (118, .iload_n 1, 0, 0, 0), (119, .invokevirtual 44, 42, 2, 3), (122, .ifCond .eq 7, 0, 0, 0)] : List zz_i)),
  (125, 129, ([(125, .iconst 1, 0, 0, 0), (126, .goto 4, 0, 0, 0)] : List zz_i)),
  (129, 130, ([(129, .iconst 0, 0, 0, 0)] : List zz_i)),
  (130, 131, ([(130, .ireturn, 0, 0, 0)] : List zz_i)),
  (131, 144, ([(131, .aload_n 0, 0, 0, 0), (132, .iload_n 1, 0, 0, 0), (133, .bipush 97, 0, 0, 0), (135, .bipush 104, 0, 0, 0), (137, .iconst 4, 0, 0, 0), (138, .bipush 97, 0, 0, 0), (140, .invokevirtual 34, 38, 6, 3), (143, .ireturn, 0, 0, 0)] : List zz_i)),
  (144, 157, ([(144, .aload_n 0, 0, 0, 0), (145, .iload_n 1, 0, 0, 0), (146, .bipush 97, 0, 0, 0), (148, .bipush 104, 0, 0, 0), (150, .iconst 5, 0, 0, 0), (151, .bipush 97, 0, 0, 0), (153, .invokevirtual 34, 38, 6, 3), (156, .ireturn, 0, 0, 0)] : List zz_i)),
  (157, 163, ([(157, .aload_n 0, 0, 0, 0), (158, .iload_n 1, 0, 0, 0), (159, .invokevirtual 47, 43, 2, 3), (162, .ireturn, 0, 0, 0)] : List zz_i)),
  (163, 169, ([(163, .aload_n 0, 0, 0, 0), (164, .iload_n 1, 0, 0, 0), (165, .invokevirtual 50, 44, 2, 3), (168, .ireturn, 0, 0, 0)] : List zz_i)),
  (169, 175, ([(169, .aload_n 0, 0, 0, 0), (170, .iload_n 1, 0, 0, 0), (171, .invokevirtual 44, 42, 2, 3), (174, .ireturn, 0, 0, 0)] : List zz_i))])
/-- 37: X3_takesPlay takesPlay(I)Z  -/
def zm_37 : zz_MI := (⟨"OneStageTwoPlays$LineReader", "takesPlay", "(I)Z"⟩, prog_5_method_6_code, 2, (some .boolean), [(0, 21, ([(0, .aload_n 0, 0, 0, 0), (1, .getfield 27, 3, 2, 0), (4, .bipush 12, 0, 0, 0), (6, .if_icmp .ge 15, 0, 0, 0), (9, .iload_n 1, 0, 0, 0), (10, .bipush 48, 0, 0, 0), (12, .if_icmp .eq 11, 0, 0, 0), (15, .iload_n 1, 0, 0, 0), (16, .bipush 49, 0, 0, 0), (18, .if_icmp .eq 5, 0, 0, 0)] : List zz_i)),
  (21, 23, ([(21, .iconst 0, 0, 0, 0), (22, .ireturn, 0, 0, 0)] : List zz_i)),
  (23, 98, ([(23, .aload_n 0, 0, 0, 0), (24, .getfield 9, 3, 0, 0), (27, .aload_n 0, 0, 0, 0), (28, .getfield 27, 3, 2, 0), (31, .iconst 0, 0, 0, 0), (32, .iload_n 1, 0, 0, 0), (33, .bipush 48, 0, 0, 0), (35, .isub, 0, 0, 0), (36, .invokevirtual 53, 115, 4, 8), (39, .aload_n 0, 0, 0, 0), (40, .getfield 9, 3, 0, 0), (43, .aload_n 0, 0, 0, 0), (44, .getfield 27, 3, 2, 0), (47, .iconst 2, 0, 0, 0), (48, .iconst 0, 0, 0, 0), (49, .invokevirtual 53, 115, 4, 8), (52, .aload_n 0, 0, 0, 0), (53, .getfield 9, 3, 0, 0), (56, .aload_n 0, 0, 0, 0), (57, .getfield 27, 3, 2, 0), (60, .iconst 3, 0, 0, 0), (61, .iconst 0, 0, 0, 0), (62, .invokevirtual 53, 115, 4, 8), (65, .aload_n 0, 0, 0, 0), (66, .getfield 9, 3, 0, 0), (69, .aload_n 0, 0, 0, 0), (70, .getfield 27, 3, 2, 0), (73, .iconst 4, 0, 0, 0), (74, .iconst (-1), 0, 0, 0), (75, .invokevirtual 53, 115, 4, 8), (78, .aload_n 0, 0, 0, 0), (79, .getfield 9, 3, 0, 0), (82, .aload_n 0, 0, 0, 0), (83, .getfield 27, 3, 2, 0), (86, .iconst 5, 0, 0, 0), (87, .iconst (-1), 0, 0, 0), (88, .invokevirtual 53, 115, 4, 8), (91, .aload_n 0, 0, 0, 0), (92, .iconst 1, 0, 0, 0), (93, .putfield 19, 3, 1, 0), (96, .iconst 1, 0, 0, 0), (97, .ireturn, 0, 0, 0)] : List zz_i))])
/-- 38: X3_takesNumber takesNumber(IIIII)Z  -/
def zm_38 : zz_MI := (⟨"OneStageTwoPlays$LineReader", "takesNumber", "(IIIII)Z"⟩, prog_5_method_7_code, 6, (some .boolean), [(0, 10, ([(0, .iload_n 1, 0, 0, 0), (1, .iload_n 2, 0, 0, 0), (2, .if_icmp .lt 8, 0, 0, 0), (5, .iload_n 1, 0, 0, 0), (6, .iload_n 3, 0, 0, 0), (7, .if_icmp .le 5, 0, 0, 0)] : List zz_i)),
  (10, 12, ([(10, .iconst 0, 0, 0, 0), (11, .ireturn, 0, 0, 0)] : List zz_i)),
  (12, 41, ([(12, .aload_n 0, 0, 0, 0), (13, .getfield 9, 3, 0, 0), (16, .aload_n 0, 0, 0, 0), (17, .getfield 27, 3, 2, 0), (20, .iload 4, 0, 0, 0), (22, .iload_n 1, 0, 0, 0), (23, .iload 5, 0, 0, 0), (25, .isub, 0, 0, 0), (26, .invokevirtual 53, 115, 4, 8), (29, .aload_n 0, 0, 0, 0), (30, .dup, 0, 0, 0), (31, .getfield 19, 3, 1, 0), (34, .iconst 1, 0, 0, 0), (35, .iadd, 0, 0, 0), (36, .putfield 19, 3, 1, 0), (39, .iconst 1, 0, 0, 0), (40, .ireturn, 0, 0, 0)] : List zz_i))])
/-- 39: X3_takesPerson takesPerson(I)Z  -/
def zm_39 : zz_MI := (⟨"OneStageTwoPlays$LineReader", "takesPerson", "(I)Z"⟩, prog_5_method_8_code, 2, (some .boolean), [(0, 28, ([(0, .iload_n 1, 0, 0, 0), (1, .bipush 65, 0, 0, 0), (3, .if_icmp .lt 25, 0, 0, 0), (6, .iload_n 1, 0, 0, 0), (7, .bipush 70, 0, 0, 0), (9, .if_icmp .gt 19, 0, 0, 0), (12, .aload_n 0, 0, 0, 0), (13, .iconst 2, 0, 0, 0), (14, .iload_n 1, 0, 0, 0), (15, .bipush 65, 0, 0, 0), (17, .isub, 0, 0, 0), (18, .invokevirtual 57, 41, 3, 3), (21, .ifCond .eq 7, 0, 0, 0), (24, .iconst 1, 0, 0, 0), (25, .goto 4, 0, 0, 0)] : List zz_i)),
  (28, 29, ([(28, .iconst 0, 0, 0, 0)] : List zz_i)),
  (29, 30, ([(29, .ireturn, 0, 0, 0)] : List zz_i))])
/-- 40: X3_takesProp takesProp(I)Z  -/
def zm_40 : zz_MI := (⟨"OneStageTwoPlays$LineReader", "takesProp", "(I)Z"⟩, prog_5_method_9_code, 2, (some .boolean), [(0, 24, ([(0, .iload_n 1, 0, 0, 0), (1, .bipush 49, 0, 0, 0), (3, .if_icmp .lt 21, 0, 0, 0), (6, .iload_n 1, 0, 0, 0), (7, .bipush 52, 0, 0, 0), (9, .if_icmp .gt 15, 0, 0, 0), (12, .aload_n 0, 0, 0, 0), (13, .iconst 3, 0, 0, 0), (14, .iload_n 1, 0, 0, 0), (15, .bipush 49, 0, 0, 0), (17, .isub, 0, 0, 0), (18, .invokevirtual 57, 41, 3, 3), (21, .ifCond .ne 5, 0, 0, 0)] : List zz_i)),
  (24, 26, ([(24, .iconst 0, 0, 0, 0), (25, .ireturn, 0, 0, 0)] : List zz_i)),
  (26, 33, ([(26, .aload_n 0, 0, 0, 0), (27, .iconst 3, 0, 0, 0), (28, .putfield 19, 3, 1, 0), (31, .iconst 1, 0, 0, 0), (32, .ireturn, 0, 0, 0)] : List zz_i))])
/-- 41: X3_rises rises(II)Z  -/
def zm_41 : zz_MI := (⟨"OneStageTwoPlays$LineReader", "rises", "(II)Z"⟩, prog_5_method_10_code, 4, (some .boolean), [(0, 21, ([(0, .aload_n 0, 0, 0, 0), (1, .getfield 9, 3, 0, 0), (4, .aload_n 0, 0, 0, 0), (5, .getfield 27, 3, 2, 0), (8, .iload_n 1, 0, 0, 0), (9, .invokevirtual 61, 114, 3, 8), (12, .istore_n 3, 0, 0, 0), (13, .iload_n 3, 0, 0, 0), (14, .iload_n 2, 0, 0, 0), (15, .ishr, 0, 0, 0), (16, .ifCond .eq 5, 0, 0, 0), (19, .iconst 0, 0, 0, 0), (20, .ireturn, 0, 0, 0)] : List zz_i)),
  (21, 40, ([(21, .aload_n 0, 0, 0, 0), (22, .getfield 9, 3, 0, 0), (25, .aload_n 0, 0, 0, 0), (26, .getfield 27, 3, 2, 0), (29, .iload_n 1, 0, 0, 0), (30, .iload_n 3, 0, 0, 0), (31, .iconst 1, 0, 0, 0), (32, .iload_n 2, 0, 0, 0), (33, .ishl, 0, 0, 0), (34, .ior, 0, 0, 0), (35, .invokevirtual 53, 115, 4, 8), (38, .iconst 1, 0, 0, 0), (39, .ireturn, 0, 0, 0)] : List zz_i))])
/-- 42: X3_takesMark takesMark(I)Z  -/
def zm_42 : zz_MI := (⟨"OneStageTwoPlays$LineReader", "takesMark", "(I)Z"⟩, prog_5_method_11_code, 2, (some .boolean), [(0, 21, ([(0, .iload_n 1, 0, 0, 0), (1, .bipush 62, 0, 0, 0), (3, .if_icmp .ne 18, 0, 0, 0), (6, .aload_n 0, 0, 0, 0), (7, .getfield 19, 3, 1, 0), (10, .iconst 3, 0, 0, 0), (11, .if_icmp .gt 10, 0, 0, 0), (14, .aload_n 0, 0, 0, 0), (15, .iconst 4, 0, 0, 0), (16, .putfield 19, 3, 1, 0), (19, .iconst 1, 0, 0, 0), (20, .ireturn, 0, 0, 0)] : List zz_i)),
  (21, 43, ([(21, .iload_n 1, 0, 0, 0), (22, .bipush 60, 0, 0, 0), (24, .if_icmp .ne 19, 0, 0, 0), (27, .aload_n 0, 0, 0, 0), (28, .getfield 19, 3, 1, 0), (31, .iconst 5, 0, 0, 0), (32, .if_icmp .gt 11, 0, 0, 0), (35, .aload_n 0, 0, 0, 0), (36, .bipush 6, 0, 0, 0), (38, .putfield 19, 3, 1, 0), (41, .iconst 1, 0, 0, 0), (42, .ireturn, 0, 0, 0)] : List zz_i)),
  (43, 66, ([(43, .iload_n 1, 0, 0, 0), (44, .bipush 61, 0, 0, 0), (46, .if_icmp .ne 20, 0, 0, 0), (49, .aload_n 0, 0, 0, 0), (50, .getfield 19, 3, 1, 0), (53, .bipush 7, 0, 0, 0), (55, .if_icmp .gt 11, 0, 0, 0), (58, .aload_n 0, 0, 0, 0), (59, .bipush 8, 0, 0, 0), (61, .putfield 19, 3, 1, 0), (64, .iconst 1, 0, 0, 0), (65, .ireturn, 0, 0, 0)] : List zz_i)),
  (66, 68, ([(66, .iconst 0, 0, 0, 0), (67, .ireturn, 0, 0, 0)] : List zz_i))])
/-- 43: X3_takesCheer takesCheer(I)Z  -/
def zm_43 : zz_MI := (⟨"OneStageTwoPlays$LineReader", "takesCheer", "(I)Z"⟩, prog_5_method_12_code, 2, (some .boolean), [(0, 18, ([(0, .aload_n 0, 0, 0, 0), (1, .iload_n 1, 0, 0, 0), (2, .bipush 48, 0, 0, 0), (4, .bipush 57, 0, 0, 0), (6, .bipush 6, 0, 0, 0), (8, .bipush 48, 0, 0, 0), (10, .invokevirtual 34, 38, 6, 3), (13, .ifCond .ne 5, 0, 0, 0), (16, .iconst 0, 0, 0, 0), (17, .ireturn, 0, 0, 0)] : List zz_i)),
  (18, 40, ([(18, .aload_n 0, 0, 0, 0), (19, .dup, 0, 0, 0), (20, .getfield 27, 3, 2, 0), (23, .iconst 1, 0, 0, 0), (24, .iadd, 0, 0, 0), (25, .putfield 27, 3, 2, 0), (28, .aload_n 0, 0, 0, 0), (29, .dup, 0, 0, 0), (30, .getfield 15, 3, 3, 0), (33, .iconst 1, 0, 0, 0), (34, .iadd, 0, 0, 0), (35, .putfield 15, 3, 3, 0), (38, .iconst 1, 0, 0, 0), (39, .ireturn, 0, 0, 0)] : List zz_i))])
/-- 44: X3_takesNextLine takesNextLine(I)Z  -/
def zm_44 : zz_MI := (⟨"OneStageTwoPlays$LineReader", "takesNextLine", "(I)Z"⟩, prog_5_method_13_code, 2, (some .boolean), [(0, 8, ([(0, .iload_n 1, 0, 0, 0), (1, .bipush 59, 0, 0, 0), (3, .if_icmp .eq 5, 0, 0, 0), (6, .iconst 0, 0, 0, 0), (7, .ireturn, 0, 0, 0)] : List zz_i)),
  (8, 15, ([(8, .aload_n 0, 0, 0, 0), (9, .iconst 0, 0, 0, 0), (10, .putfield 19, 3, 1, 0), (13, .iconst 1, 0, 0, 0), (14, .ireturn, 0, 0, 0)] : List zz_i))])
/-- 45: X4_init <init>(LOneStageTwoPlays$Script;)V  -/
def zm_45 : zz_MI := (⟨"OneStageTwoPlays$Loom", "<init>", "(LOneStageTwoPlays$Script;)V"⟩, prog_6_method_1_code, 2, none, [(0, 44, ([(0, .aload_n 0, 0, 0, 0), (1, .invokespecial 3, 999, 1, 0), (4, .aload_n 0, 0, 0, 0), (5, .sipush 156, 0, 0, 0), (8, .newarray .int, 0, 0, 0), (10, .putfield 11, 4, 1, 0), (13, .aload_n 0, 0, 0, 0), (14, .bipush 26, 0, 0, 0), (16, .newarray .int, 0, 0, 0), (18, .putfield 15, 4, 2, 0), (21, .aload_n 0, 0, 0, 0), (22, .sipush 338, 0, 0, 0), (25, .newarray .int, 0, 0, 0), (27, .putfield 18, 4, 3, 0), (30, .aload_n 0, 0, 0, 0), (31, .bipush 12, 0, 0, 0), (33, .newarray .int, 0, 0, 0), (35, .putfield 21, 4, 4, 0), (38, .aload_n 0, 0, 0, 0), (39, .aload_n 1, 0, 0, 0), (40, .putfield 24, 4, 0, 0), (43, .return_, 0, 0, 0)] : List zz_i))])
/-- 46: X4_setCosts setCosts(LOneStageTwoPlays$Changes;I)V  -/
def zm_46 : zz_MI := (⟨"OneStageTwoPlays$Loom", "setCosts", "(LOneStageTwoPlays$Changes;I)V"⟩, prog_6_method_2_code, 6, none, [(0, 2, ([(0, .iconst 0, 0, 0, 0), (1, .istore_n 3, 0, 0, 0)] : List zz_i)),
  (2, 22, ([(2, .iload_n 3, 0, 0, 0), (3, .bipush 12, 0, 0, 0), (5, .if_icmp .ge 77, 0, 0, 0), (8, .aload_n 0, 0, 0, 0), (9, .getfield 24, 4, 0, 0), (12, .iload_n 3, 0, 0, 0), (13, .iconst 1, 0, 0, 0), (14, .invokevirtual 28, 114, 3, 8), (17, .istore 4, 0, 0, 0), (19, .iconst 0, 0, 0, 0), (20, .istore 5, 0, 0, 0)] : List zz_i)),
  (22, 57, ([(22, .iload 5, 0, 0, 0), (24, .bipush 12, 0, 0, 0), (26, .if_icmp .ge 31, 0, 0, 0), (29, .aload_n 0, 0, 0, 0), (30, .getfield 11, 4, 1, 0), (33, .iload 5, 0, 0, 0), (35, .bipush 12, 0, 0, 0), (37, .imul, 0, 0, 0), (38, .iload_n 3, 0, 0, 0), (39, .iadd, 0, 0, 0), (40, .aload_n 1, 0, 0, 0), (41, .iload 5, 0, 0, 0), (43, .iload_n 3, 0, 0, 0), (44, .invokevirtual 34, 10, 3, 1), (47, .iload 4, 0, 0, 0), (49, .iadd, 0, 0, 0), (50, .iastore, 0, 0, 0), (51, .iinc 5 1, 0, 0, 0), (54, .goto (-32), 0, 0, 0)] : List zz_i)),
  (57, 82, ([(57, .aload_n 0, 0, 0, 0), (58, .getfield 11, 4, 1, 0), (61, .sipush 144, 0, 0, 0), (64, .iload_n 3, 0, 0, 0), (65, .iadd, 0, 0, 0), (66, .aload_n 1, 0, 0, 0), (67, .iload_n 2, 0, 0, 0), (68, .iload_n 3, 0, 0, 0), (69, .invokevirtual 34, 10, 3, 1), (72, .iload 4, 0, 0, 0), (74, .iadd, 0, 0, 0), (75, .iastore, 0, 0, 0), (76, .iinc 3 1, 0, 0, 0), (79, .goto (-77), 0, 0, 0)] : List zz_i)),
  (82, 83, ([(82, .return_, 0, 0, 0)] : List zz_i))])
/-- 47: X4_lay lay(I)V  -/
def zm_47 : zz_MI := (⟨"OneStageTwoPlays$Loom", "lay", "(I)V"⟩, prog_6_method_3_code, 2, none, [(0, 21, ([(0, .aload_n 0, 0, 0, 0), (1, .aload_n 0, 0, 0, 0), (2, .iload_n 1, 0, 0, 0), (3, .iconst 0, 0, 0, 0), (4, .invokevirtual 39, 48, 3, 4), (7, .putfield 42, 4, 6, 0), (10, .aload_n 0, 0, 0, 0), (11, .aload_n 0, 0, 0, 0), (12, .iload_n 1, 0, 0, 0), (13, .iconst 1, 0, 0, 0), (14, .invokevirtual 39, 48, 3, 4), (17, .putfield 46, 4, 7, 0), (20, .return_, 0, 0, 0)] : List zz_i))])
/-- 48: X4_layPlay layPlay(II)I  -/
def zm_48 : zz_MI := (⟨"OneStageTwoPlays$Loom", "layPlay", "(II)I"⟩, prog_6_method_4_code, 7, (some .int), [(0, 19, ([(0, .iload_n 1, 0, 0, 0), (1, .aload_n 0, 0, 0, 0), (2, .getfield 24, 4, 0, 0), (5, .iload_n 2, 0, 0, 0), (6, .invokevirtual 49, 117, 2, 8), (9, .iand, 0, 0, 0), (10, .istore_n 3, 0, 0, 0), (11, .iload_n 2, 0, 0, 0), (12, .ifCond .ne 7, 0, 0, 0), (15, .iconst 0, 0, 0, 0), (16, .goto 5, 0, 0, 0)] : List zz_i)),
  (19, 21, ([(19, .bipush 13, 0, 0, 0)] : List zz_i)),
  (21, 38, ([(21, .istore 4, 0, 0, 0), (23, .iconst 0, 0, 0, 0), (24, .istore 5, 0, 0, 0), (26, .aload_n 0, 0, 0, 0), (27, .getfield 15, 4, 2, 0), (30, .iload 4, 0, 0, 0), (32, .bipush 12, 0, 0, 0), (34, .iastore, 0, 0, 0), (35, .iconst 0, 0, 0, 0), (36, .istore 6, 0, 0, 0)] : List zz_i)),
  (38, 70, ([(38, .iload 6, 0, 0, 0), (40, .bipush 12, 0, 0, 0), (42, .if_icmp .ge 34, 0, 0, 0), (45, .iload_n 3, 0, 0, 0), (46, .iload 6, 0, 0, 0), (48, .ishr, 0, 0, 0), (49, .iconst 1, 0, 0, 0), (50, .iand, 0, 0, 0), (51, .iconst 1, 0, 0, 0), (52, .if_icmp .ne 18, 0, 0, 0), (55, .iinc 5 1, 0, 0, 0), (58, .aload_n 0, 0, 0, 0), (59, .getfield 15, 4, 2, 0), (62, .iload 4, 0, 0, 0), (64, .iload 5, 0, 0, 0), (66, .iadd, 0, 0, 0), (67, .iload 6, 0, 0, 0), (69, .iastore, 0, 0, 0)] : List zz_i)),
  (70, 76, ([(70, .iinc 6 1, 0, 0, 0), (73, .goto (-35), 0, 0, 0)] : List zz_i)),
  (76, 79, ([(76, .iload 5, 0, 0, 0), (78, .ireturn, 0, 0, 0)] : List zz_i))])
/-- 49: X4_sizeOf sizeOf(I)I  -/
def zm_49 : zz_MI := (⟨"OneStageTwoPlays$Loom", "sizeOf", "(I)I"⟩, prog_6_method_5_code, 2, (some .int), [(0, 11, ([(0, .iload_n 1, 0, 0, 0), (1, .ifCond .ne 10, 0, 0, 0), (4, .aload_n 0, 0, 0, 0), (5, .getfield 42, 4, 6, 0), (8, .goto 7, 0, 0, 0)] : List zz_i)),
  (11, 15, ([(11, .aload_n 0, 0, 0, 0), (12, .getfield 46, 4, 7, 0)] : List zz_i)),
  (15, 16, ([(15, .ireturn, 0, 0, 0)] : List zz_i))])
/-- 50: X4_turnAt turnAt(I)I  -/
def zm_50 : zz_MI := (⟨"OneStageTwoPlays$Loom", "turnAt", "(I)I"⟩, prog_6_method_6_code, 2, (some .int), [(0, 22, ([(0, .iload_n 1, 0, 0, 0), (1, .ifCond .lt 21, 0, 0, 0), (4, .iload_n 1, 0, 0, 0), (5, .aload_n 0, 0, 0, 0), (6, .getfield 21, 4, 4, 0), (9, .arraylength, 0, 0, 0), (10, .if_icmp .ge 12, 0, 0, 0), (13, .aload_n 0, 0, 0, 0), (14, .getfield 21, 4, 4, 0), (17, .iload_n 1, 0, 0, 0), (18, .iaload, 0, 0, 0), (19, .goto 4, 0, 0, 0)] : List zz_i)),
  (22, 23, ([(22, .iconst 0, 0, 0, 0)] : List zz_i)),
  (23, 24, ([(23, .ireturn, 0, 0, 0)] : List zz_i))])
/-- 51: X4_valueAt valueAt(III)I  -/
def zm_51 : zz_MI := (⟨"OneStageTwoPlays$Loom", "valueAt", "(III)I"⟩, prog_6_method_7_code, 5, (some .int), [(0, 37, ([(0, .iload_n 1, 0, 0, 0), (1, .bipush 13, 0, 0, 0), (3, .imul, 0, 0, 0), (4, .iload_n 2, 0, 0, 0), (5, .iadd, 0, 0, 0), (6, .iconst 2, 0, 0, 0), (7, .imul, 0, 0, 0), (8, .iload_n 3, 0, 0, 0), (9, .iadd, 0, 0, 0), (10, .istore 4, 0, 0, 0), (12, .iload 4, 0, 0, 0), (14, .ifCond .lt 23, 0, 0, 0), (17, .iload 4, 0, 0, 0), (19, .aload_n 0, 0, 0, 0), (20, .getfield 18, 4, 3, 0), (23, .arraylength, 0, 0, 0), (24, .if_icmp .ge 13, 0, 0, 0), (27, .aload_n 0, 0, 0, 0), (28, .getfield 18, 4, 3, 0), (31, .iload 4, 0, 0, 0), (33, .iaload, 0, 0, 0), (34, .goto 5, 0, 0, 0)] : List zz_i)),
  (37, 39, ([(37, .ldc 53, 1000000, 0, 0)] : List zz_i)),
  (39, 40, ([(39, .ireturn, 0, 0, 0)] : List zz_i))])
/-- 52: X4_put put(IIII)V  -/
def zm_52 : zz_MI := (⟨"OneStageTwoPlays$Loom", "put", "(IIII)V"⟩, prog_6_method_8_code, 6, none, [(0, 36, ([(0, .iload_n 1, 0, 0, 0), (1, .bipush 13, 0, 0, 0), (3, .imul, 0, 0, 0), (4, .iload_n 2, 0, 0, 0), (5, .iadd, 0, 0, 0), (6, .iconst 2, 0, 0, 0), (7, .imul, 0, 0, 0), (8, .iload_n 3, 0, 0, 0), (9, .iadd, 0, 0, 0), (10, .istore 5, 0, 0, 0), (12, .iload 5, 0, 0, 0), (14, .ifCond .lt 22, 0, 0, 0), (17, .iload 5, 0, 0, 0), (19, .aload_n 0, 0, 0, 0), (20, .getfield 18, 4, 3, 0), (23, .arraylength, 0, 0, 0), (24, .if_icmp .ge 12, 0, 0, 0), (27, .aload_n 0, 0, 0, 0), (28, .getfield 18, 4, 3, 0), (31, .iload 5, 0, 0, 0), (33, .iload 4, 0, 0, 0), (35, .iastore, 0, 0, 0)] : List zz_i)),
  (36, 37, ([(36, .return_, 0, 0, 0)] : List zz_i))])
/-- 53: X4_stepBy stepBy(IIII)I  -/
def zm_53 : zz_MI := (⟨"OneStageTwoPlays$Loom", "stepBy", "(IIII)I"⟩, prog_6_method_9_code, 8, (some .int), [(0, 8, ([(0, .iload_n 3, 0, 0, 0), (1, .ifCond .ne 7, 0, 0, 0), (4, .iload_n 1, 0, 0, 0), (5, .goto 7, 0, 0, 0)] : List zz_i)),
  (8, 12, ([(8, .bipush 13, 0, 0, 0), (10, .iload_n 2, 0, 0, 0), (11, .iadd, 0, 0, 0)] : List zz_i)),
  (12, 25, ([(12, .istore 5, 0, 0, 0), (14, .iload 4, 0, 0, 0), (16, .ifCond .ne 9, 0, 0, 0), (19, .iload_n 1, 0, 0, 0), (20, .iconst 1, 0, 0, 0), (21, .iadd, 0, 0, 0), (22, .goto 9, 0, 0, 0)] : List zz_i)),
  (25, 31, ([(25, .bipush 13, 0, 0, 0), (27, .iload_n 2, 0, 0, 0), (28, .iadd, 0, 0, 0), (29, .iconst 1, 0, 0, 0), (30, .iadd, 0, 0, 0)] : List zz_i)),
  (31, 63, ([(31, .istore 6, 0, 0, 0), (33, .iload 5, 0, 0, 0), (35, .ifCond .lt 28, 0, 0, 0), (38, .iload 5, 0, 0, 0), (40, .aload_n 0, 0, 0, 0), (41, .getfield 15, 4, 2, 0), (44, .arraylength, 0, 0, 0), (45, .if_icmp .ge 18, 0, 0, 0), (48, .iload 6, 0, 0, 0), (50, .ifCond .lt 13, 0, 0, 0), (53, .iload 6, 0, 0, 0), (55, .aload_n 0, 0, 0, 0), (56, .getfield 15, 4, 2, 0), (59, .arraylength, 0, 0, 0), (60, .if_icmp .lt 6, 0, 0, 0)] : List zz_i)),
  (63, 66, ([(63, .ldc 53, 1000000, 0, 0), (65, .ireturn, 0, 0, 0)] : List zz_i)),
  (66, 111, ([(66, .aload_n 0, 0, 0, 0), (67, .getfield 15, 4, 2, 0), (70, .iload 5, 0, 0, 0), (72, .iaload, 0, 0, 0), (73, .bipush 12, 0, 0, 0), (75, .imul, 0, 0, 0), (76, .aload_n 0, 0, 0, 0), (77, .getfield 15, 4, 2, 0), (80, .iload 6, 0, 0, 0), (82, .iaload, 0, 0, 0), (83, .iadd, 0, 0, 0), (84, .istore 7, 0, 0, 0), (86, .iload 7, 0, 0, 0), (88, .ifCond .lt 23, 0, 0, 0), (91, .iload 7, 0, 0, 0), (93, .aload_n 0, 0, 0, 0), (94, .getfield 11, 4, 1, 0), (97, .arraylength, 0, 0, 0), (98, .if_icmp .ge 13, 0, 0, 0), (101, .aload_n 0, 0, 0, 0), (102, .getfield 11, 4, 1, 0), (105, .iload 7, 0, 0, 0), (107, .iaload, 0, 0, 0), (108, .goto 5, 0, 0, 0)] : List zz_i)),
  (111, 113, ([(111, .ldc 53, 1000000, 0, 0)] : List zz_i)),
  (113, 114, ([(113, .ireturn, 0, 0, 0)] : List zz_i))])
/-- 54: X4_valueBehind valueBehind(III)I  -/
def zm_54 : zz_MI := (⟨"OneStageTwoPlays$Loom", "valueBehind", "(III)I"⟩, prog_6_method_10_code, 5, (some .int), [(0, 17, ([(0, .iload_n 3, 0, 0, 0), (1, .ifCond .ne 16, 0, 0, 0), (4, .iload_n 1, 0, 0, 0), (5, .iconst 1, 0, 0, 0), (6, .iadd, 0, 0, 0), (7, .bipush 13, 0, 0, 0), (9, .imul, 0, 0, 0), (10, .iload_n 2, 0, 0, 0), (11, .iadd, 0, 0, 0), (12, .iconst 2, 0, 0, 0), (13, .imul, 0, 0, 0), (14, .goto 15, 0, 0, 0)] : List zz_i)),
  (17, 29, ([(17, .iload_n 1, 0, 0, 0), (18, .bipush 13, 0, 0, 0), (20, .imul, 0, 0, 0), (21, .iload_n 2, 0, 0, 0), (22, .iadd, 0, 0, 0), (23, .iconst 1, 0, 0, 0), (24, .iadd, 0, 0, 0), (25, .iconst 2, 0, 0, 0), (26, .imul, 0, 0, 0), (27, .iconst 1, 0, 0, 0), (28, .iadd, 0, 0, 0)] : List zz_i)),
  (29, 56, ([(29, .istore 4, 0, 0, 0), (31, .iload 4, 0, 0, 0), (33, .ifCond .lt 23, 0, 0, 0), (36, .iload 4, 0, 0, 0), (38, .aload_n 0, 0, 0, 0), (39, .getfield 18, 4, 3, 0), (42, .arraylength, 0, 0, 0), (43, .if_icmp .ge 13, 0, 0, 0), (46, .aload_n 0, 0, 0, 0), (47, .getfield 18, 4, 3, 0), (50, .iload 4, 0, 0, 0), (52, .iaload, 0, 0, 0), (53, .goto 5, 0, 0, 0)] : List zz_i)),
  (56, 58, ([(56, .ldc 53, 1000000, 0, 0)] : List zz_i)),
  (58, 59, ([(58, .ireturn, 0, 0, 0)] : List zz_i))])
/-- 55: X4_restBy restBy(IIII)I  -/
def zm_55 : zz_MI := (⟨"OneStageTwoPlays$Loom", "restBy", "(IIII)I"⟩, prog_6_method_11_code, 5, (some .int), [(0, 19, ([(0, .aload_n 0, 0, 0, 0), (1, .iload_n 1, 0, 0, 0), (2, .iload_n 2, 0, 0, 0), (3, .iload_n 3, 0, 0, 0), (4, .iload 4, 0, 0, 0), (6, .invokevirtual 54, 53, 5, 4), (9, .aload_n 0, 0, 0, 0), (10, .iload_n 1, 0, 0, 0), (11, .iload_n 2, 0, 0, 0), (12, .iload 4, 0, 0, 0), (14, .invokevirtual 58, 54, 4, 4), (17, .iadd, 0, 0, 0), (18, .ireturn, 0, 0, 0)] : List zz_i))])
/-- 56: X4_restFrom restFrom(IIIZ)I  -/
def zm_56 : zz_MI := (⟨"OneStageTwoPlays$Loom", "restFrom", "(IIIZ)I"⟩, prog_6_method_12_code, 7, (some .int), [(0, 20, ([(0, .iload_n 1, 0, 0, 0), (1, .aload_n 0, 0, 0, 0), (2, .getfield 42, 4, 6, 0), (5, .if_icmp .lt 24, 0, 0, 0), (8, .iload_n 2, 0, 0, 0), (9, .aload_n 0, 0, 0, 0), (10, .getfield 46, 4, 7, 0), (13, .if_icmp .lt 7, 0, 0, 0), (16, .iconst 0, 0, 0, 0), (17, .goto 11, 0, 0, 0)] : List zz_i)),
  (20, 28, ([(20, .aload_n 0, 0, 0, 0), (21, .iload_n 1, 0, 0, 0), (22, .iload_n 2, 0, 0, 0), (23, .iload_n 3, 0, 0, 0), (24, .iconst 1, 0, 0, 0), (25, .invokevirtual 62, 55, 5, 4)] : List zz_i)),
  (28, 29, ([(28, .ireturn, 0, 0, 0)] : List zz_i)),
  (29, 50, ([(29, .aload_n 0, 0, 0, 0), (30, .iload_n 1, 0, 0, 0), (31, .iload_n 2, 0, 0, 0), (32, .iload_n 3, 0, 0, 0), (33, .iconst 0, 0, 0, 0), (34, .invokevirtual 62, 55, 5, 4), (37, .istore 5, 0, 0, 0), (39, .iload_n 2, 0, 0, 0), (40, .aload_n 0, 0, 0, 0), (41, .getfield 46, 4, 7, 0), (44, .if_icmp .lt 6, 0, 0, 0), (47, .iload 5, 0, 0, 0), (49, .ireturn, 0, 0, 0)] : List zz_i)),
  (50, 75, ([(50, .aload_n 0, 0, 0, 0), (51, .iload_n 1, 0, 0, 0), (52, .iload_n 2, 0, 0, 0), (53, .iload_n 3, 0, 0, 0), (54, .iconst 1, 0, 0, 0), (55, .invokevirtual 62, 55, 5, 4), (58, .istore 6, 0, 0, 0), (60, .iload 4, 0, 0, 0), (62, .ifCond .eq 13, 0, 0, 0), (65, .iload 5, 0, 0, 0), (67, .iload 6, 0, 0, 0), (69, .invokestatic 65, 309, 2, 0), (72, .goto 10, 0, 0, 0)] : List zz_i)),
  (75, 82, ([(75, .iload 5, 0, 0, 0), (77, .iload 6, 0, 0, 0), (79, .invokestatic 70, 310, 2, 0)] : List zz_i)),
  (82, 83, ([(82, .ireturn, 0, 0, 0)] : List zz_i))])
/-- 57: X4_fillBack fillBack(Z)I  -/
def zm_57 : zz_MI := (⟨"OneStageTwoPlays$Loom", "fillBack", "(Z)I"⟩, prog_6_method_13_code, 4, (some .int), [(0, 5, ([(0, .aload_n 0, 0, 0, 0), (1, .getfield 42, 4, 6, 0), (4, .istore_n 2, 0, 0, 0)] : List zz_i)),
  (5, 14, ([(5, .iload_n 2, 0, 0, 0), (6, .ifCond .lt 54, 0, 0, 0), (9, .aload_n 0, 0, 0, 0), (10, .getfield 46, 4, 7, 0), (13, .istore_n 3, 0, 0, 0)] : List zz_i)),
  (14, 54, ([(14, .iload_n 3, 0, 0, 0), (15, .ifCond .lt 39, 0, 0, 0), (18, .aload_n 0, 0, 0, 0), (19, .iload_n 2, 0, 0, 0), (20, .iload_n 3, 0, 0, 0), (21, .iconst 0, 0, 0, 0), (22, .aload_n 0, 0, 0, 0), (23, .iload_n 2, 0, 0, 0), (24, .iload_n 3, 0, 0, 0), (25, .iconst 0, 0, 0, 0), (26, .iload_n 1, 0, 0, 0), (27, .invokevirtual 73, 56, 5, 4), (30, .invokevirtual 77, 52, 5, 4), (33, .aload_n 0, 0, 0, 0), (34, .iload_n 2, 0, 0, 0), (35, .iload_n 3, 0, 0, 0), (36, .iconst 1, 0, 0, 0), (37, .aload_n 0, 0, 0, 0), (38, .iload_n 2, 0, 0, 0), (39, .iload_n 3, 0, 0, 0), (40, .iconst 1, 0, 0, 0), (41, .iload_n 1, 0, 0, 0), (42, .invokevirtual 73, 56, 5, 4), (45, .invokevirtual 77, 52, 5, 4), (48, .iinc 3 (-1), 0, 0, 0), (51, .goto (-37), 0, 0, 0)] : List zz_i)),
  (54, 60, ([(54, .iinc 2 (-1), 0, 0, 0), (57, .goto (-52), 0, 0, 0)] : List zz_i)),
  (60, 68, ([(60, .aload_n 0, 0, 0, 0), (61, .iconst 0, 0, 0, 0), (62, .iconst 0, 0, 0, 0), (63, .iconst 0, 0, 0, 0), (64, .invokevirtual 81, 51, 4, 4), (67, .ireturn, 0, 0, 0)] : List zz_i))])
/-- 58: X4_shortest shortest()I  -/
def zm_58 : zz_MI := (⟨"OneStageTwoPlays$Loom", "shortest", "()I"⟩, prog_6_method_14_code, 1, (some .int), [(0, 6, ([(0, .aload_n 0, 0, 0, 0), (1, .iconst 0, 0, 0, 0), (2, .invokevirtual 84, 57, 2, 4), (5, .ireturn, 0, 0, 0)] : List zz_i))])
/-- 59: X4_longest longest()I  -/
def zm_59 : zz_MI := (⟨"OneStageTwoPlays$Loom", "longest", "()I"⟩, prog_6_method_15_code, 1, (some .int), [(0, 6, ([(0, .aload_n 0, 0, 0, 0), (1, .iconst 1, 0, 0, 0), (2, .invokevirtual 84, 57, 2, 4), (5, .ireturn, 0, 0, 0)] : List zz_i))])
/-- 60: X4_shortestFrom shortestFrom(I)I  -/
def zm_60 : zz_MI := (⟨"OneStageTwoPlays$Loom", "shortestFrom", "(I)I"⟩, prog_6_method_16_code, 2, (some .int), [(0, 9, ([(0, .aload_n 0, 0, 0, 0), (1, .iconst 0, 0, 0, 0), (2, .iconst 0, 0, 0, 0), (3, .iconst 0, 0, 0, 0), (4, .iload_n 1, 0, 0, 0), (5, .invokevirtual 62, 55, 5, 4), (8, .ireturn, 0, 0, 0)] : List zz_i))])
/-- 61: X4_findShortestTurns findShortestTurns()V  -/
def zm_61 : zz_MI := (⟨"OneStageTwoPlays$Loom", "findShortestTurns", "()V"⟩, prog_6_method_17_code, 7, none, [(0, 25, ([(0, .iconst 0, 0, 0, 0), (1, .istore_n 1, 0, 0, 0), (2, .iconst 0, 0, 0, 0), (3, .istore_n 2, 0, 0, 0), (4, .iconst 0, 0, 0, 0), (5, .istore_n 3, 0, 0, 0), (6, .aload_n 0, 0, 0, 0), (7, .iconst 0, 0, 0, 0), (8, .putfield 88, 4, 5, 0), (11, .aload_n 0, 0, 0, 0), (12, .getfield 42, 4, 6, 0), (15, .aload_n 0, 0, 0, 0), (16, .getfield 46, 4, 7, 0), (19, .iadd, 0, 0, 0), (20, .istore 4, 0, 0, 0), (22, .iconst 0, 0, 0, 0), (23, .istore 5, 0, 0, 0)] : List zz_i)),
  (25, 72, ([(25, .iload 5, 0, 0, 0), (27, .iload 4, 0, 0, 0), (29, .if_icmp .ge 105, 0, 0, 0), (32, .iload 5, 0, 0, 0), (34, .aload_n 0, 0, 0, 0), (35, .getfield 21, 4, 4, 0), (38, .arraylength, 0, 0, 0), (39, .if_icmp .ge 95, 0, 0, 0), (42, .iload_n 1, 0, 0, 0), (43, .aload_n 0, 0, 0, 0), (44, .getfield 42, 4, 6, 0), (47, .if_icmp .ge 25, 0, 0, 0), (50, .aload_n 0, 0, 0, 0), (51, .iload_n 1, 0, 0, 0), (52, .iload_n 2, 0, 0, 0), (53, .iload_n 3, 0, 0, 0), (54, .iconst 0, 0, 0, 0), (55, .invokevirtual 62, 55, 5, 4), (58, .aload_n 0, 0, 0, 0), (59, .iload_n 1, 0, 0, 0), (60, .iload_n 2, 0, 0, 0), (61, .iload_n 3, 0, 0, 0), (62, .invokevirtual 81, 51, 4, 4), (65, .if_icmp .ne 7, 0, 0, 0), (68, .iconst 1, 0, 0, 0), (69, .goto 4, 0, 0, 0)] : List zz_i)),
  (72, 73, ([(72, .iconst 0, 0, 0, 0)] : List zz_i)),
  (73, 84, ([(73, .istore 6, 0, 0, 0), (75, .iload 6, 0, 0, 0), (77, .ifCond .eq 7, 0, 0, 0), (80, .iconst 0, 0, 0, 0), (81, .goto 4, 0, 0, 0)] : List zz_i)),
  (84, 85, ([(84, .iconst 1, 0, 0, 0)] : List zz_i)),
  (85, 96, ([(85, .istore_n 3, 0, 0, 0), (86, .iload_n 1, 0, 0, 0), (87, .iload 6, 0, 0, 0), (89, .ifCond .eq 7, 0, 0, 0), (92, .iconst 1, 0, 0, 0), (93, .goto 4, 0, 0, 0)] : List zz_i)),
  (96, 97, ([(96, .iconst 0, 0, 0, 0)] : List zz_i)),
  (97, 109, ([(97, .iadd, 0, 0, 0), (98, .istore_n 1, 0, 0, 0), (99, .iload_n 2, 0, 0, 0), (100, .iload 6, 0, 0, 0), (102, .ifCond .eq 7, 0, 0, 0), (105, .iconst 0, 0, 0, 0), (106, .goto 4, 0, 0, 0)] : List zz_i)),
  (109, 110, ([(109, .iconst 1, 0, 0, 0)] : List zz_i)),
  (110, 134, ([(110, .iadd, 0, 0, 0), (111, .istore_n 2, 0, 0, 0), (112, .aload_n 0, 0, 0, 0), (113, .getfield 21, 4, 4, 0), (116, .iload 5, 0, 0, 0), (118, .iload_n 3, 0, 0, 0), (119, .iastore, 0, 0, 0), (120, .aload_n 0, 0, 0, 0), (121, .iload 5, 0, 0, 0), (123, .iconst 1, 0, 0, 0), (124, .iadd, 0, 0, 0), (125, .putfield 88, 4, 5, 0), (128, .iinc 5 1, 0, 0, 0), (131, .goto (-106), 0, 0, 0)] : List zz_i)),
  (134, 135, ([(134, .return_, 0, 0, 0)] : List zz_i))])
/-- 62: X4_ways ways()I  -/
def zm_62 : zz_MI := (⟨"OneStageTwoPlays$Loom", "ways", "()I"⟩, prog_6_method_18_code, 3, (some .int), [(0, 4, ([(0, .iconst 1, 0, 0, 0), (1, .istore_n 1, 0, 0, 0), (2, .iconst 1, 0, 0, 0), (3, .istore_n 2, 0, 0, 0)] : List zz_i)),
  (4, 29, ([(4, .iload_n 2, 0, 0, 0), (5, .aload_n 0, 0, 0, 0), (6, .getfield 42, 4, 6, 0), (9, .if_icmp .gt 20, 0, 0, 0), (12, .iload_n 1, 0, 0, 0), (13, .aload_n 0, 0, 0, 0), (14, .getfield 46, 4, 7, 0), (17, .iload_n 2, 0, 0, 0), (18, .iadd, 0, 0, 0), (19, .imul, 0, 0, 0), (20, .iload_n 2, 0, 0, 0), (21, .idiv, 0, 0, 0), (22, .istore_n 1, 0, 0, 0), (23, .iinc 2 1, 0, 0, 0), (26, .goto (-22), 0, 0, 0)] : List zz_i)),
  (29, 31, ([(29, .iload_n 1, 0, 0, 0), (30, .ireturn, 0, 0, 0)] : List zz_i))])
/-- 63: X4_latestBy latestBy(IIII)I  -/
def zm_63 : zz_MI := (⟨"OneStageTwoPlays$Loom", "latestBy", "(IIII)I"⟩, prog_6_method_19_code, 7, (some .int), [(0, 14, ([(0, .iload 4, 0, 0, 0), (2, .ifCond .ne 12, 0, 0, 0), (5, .aload_n 0, 0, 0, 0), (6, .getfield 42, 4, 6, 0), (9, .iload_n 1, 0, 0, 0), (10, .isub, 0, 0, 0), (11, .goto 9, 0, 0, 0)] : List zz_i)),
  (14, 20, ([(14, .aload_n 0, 0, 0, 0), (15, .getfield 46, 4, 7, 0), (18, .iload_n 2, 0, 0, 0), (19, .isub, 0, 0, 0)] : List zz_i)),
  (20, 30, ([(20, .istore 5, 0, 0, 0), (22, .iload 5, 0, 0, 0), (24, .ifCond .gt 6, 0, 0, 0), (27, .ldc 91, 4293967296, 0, 0), (29, .ireturn, 0, 0, 0)] : List zz_i)),
  (30, 60, ([(30, .aload_n 0, 0, 0, 0), (31, .iload_n 1, 0, 0, 0), (32, .iload_n 2, 0, 0, 0), (33, .iload 4, 0, 0, 0), (35, .invokevirtual 58, 54, 4, 4), (38, .istore 6, 0, 0, 0), (40, .iload 5, 0, 0, 0), (42, .iconst 1, 0, 0, 0), (43, .if_icmp .ne 26, 0, 0, 0), (46, .iload 6, 0, 0, 0), (48, .iload 4, 0, 0, 0), (50, .ifCond .ne 10, 0, 0, 0), (53, .aload_n 0, 0, 0, 0), (54, .getfield 92, 4, 8, 0), (57, .goto 7, 0, 0, 0)] : List zz_i)),
  (60, 64, ([(60, .aload_n 0, 0, 0, 0), (61, .getfield 95, 4, 9, 0)] : List zz_i)),
  (64, 69, ([(64, .invokestatic 70, 310, 2, 0), (67, .istore 6, 0, 0, 0)] : List zz_i)),
  (69, 82, ([(69, .iload 6, 0, 0, 0), (71, .aload_n 0, 0, 0, 0), (72, .iload_n 1, 0, 0, 0), (73, .iload_n 2, 0, 0, 0), (74, .iload_n 3, 0, 0, 0), (75, .iload 4, 0, 0, 0), (77, .invokevirtual 54, 53, 5, 4), (80, .isub, 0, 0, 0), (81, .ireturn, 0, 0, 0)] : List zz_i))])
/-- 64: X4_latestAt latestAt(III)I  -/
def zm_64 : zz_MI := (⟨"OneStageTwoPlays$Loom", "latestAt", "(III)I"⟩, prog_6_method_20_code, 4, (some .int), [(0, 19, ([(0, .iload_n 1, 0, 0, 0), (1, .aload_n 0, 0, 0, 0), (2, .getfield 42, 4, 6, 0), (5, .if_icmp .lt 14, 0, 0, 0), (8, .iload_n 2, 0, 0, 0), (9, .aload_n 0, 0, 0, 0), (10, .getfield 46, 4, 7, 0), (13, .if_icmp .lt 6, 0, 0, 0), (16, .ldc 53, 1000000, 0, 0), (18, .ireturn, 0, 0, 0)] : List zz_i)),
  (19, 39, ([(19, .aload_n 0, 0, 0, 0), (20, .iload_n 1, 0, 0, 0), (21, .iload_n 2, 0, 0, 0), (22, .iload_n 3, 0, 0, 0), (23, .iconst 0, 0, 0, 0), (24, .invokevirtual 98, 63, 5, 4), (27, .aload_n 0, 0, 0, 0), (28, .iload_n 1, 0, 0, 0), (29, .iload_n 2, 0, 0, 0), (30, .iload_n 3, 0, 0, 0), (31, .iconst 1, 0, 0, 0), (32, .invokevirtual 98, 63, 5, 4), (35, .invokestatic 65, 309, 2, 0), (38, .ireturn, 0, 0, 0)] : List zz_i))])
/-- 65: X4_findTurnsBy findTurnsBy(II)Z  -/
def zm_65 : zz_MI := (⟨"OneStageTwoPlays$Loom", "findTurnsBy", "(II)Z"⟩, prog_6_method_21_code, 5, (some .boolean), [(0, 20, ([(0, .aload_n 0, 0, 0, 0), (1, .iload_n 1, 0, 0, 0), (2, .putfield 92, 4, 8, 0), (5, .aload_n 0, 0, 0, 0), (6, .iload_n 2, 0, 0, 0), (7, .putfield 95, 4, 9, 0), (10, .aload_n 0, 0, 0, 0), (11, .iconst 0, 0, 0, 0), (12, .putfield 88, 4, 5, 0), (15, .aload_n 0, 0, 0, 0), (16, .getfield 42, 4, 6, 0), (19, .istore_n 3, 0, 0, 0)] : List zz_i)),
  (20, 30, ([(20, .iload_n 3, 0, 0, 0), (21, .ifCond .lt 58, 0, 0, 0), (24, .aload_n 0, 0, 0, 0), (25, .getfield 46, 4, 7, 0), (28, .istore 4, 0, 0, 0)] : List zz_i)),
  (30, 73, ([(30, .iload 4, 0, 0, 0), (32, .ifCond .lt 41, 0, 0, 0), (35, .aload_n 0, 0, 0, 0), (36, .iload_n 3, 0, 0, 0), (37, .iload 4, 0, 0, 0), (39, .iconst 0, 0, 0, 0), (40, .aload_n 0, 0, 0, 0), (41, .iload_n 3, 0, 0, 0), (42, .iload 4, 0, 0, 0), (44, .iconst 0, 0, 0, 0), (45, .invokevirtual 101, 64, 4, 4), (48, .invokevirtual 77, 52, 5, 4), (51, .aload_n 0, 0, 0, 0), (52, .iload_n 3, 0, 0, 0), (53, .iload 4, 0, 0, 0), (55, .iconst 1, 0, 0, 0), (56, .aload_n 0, 0, 0, 0), (57, .iload_n 3, 0, 0, 0), (58, .iload 4, 0, 0, 0), (60, .iconst 1, 0, 0, 0), (61, .invokevirtual 101, 64, 4, 4), (64, .invokevirtual 77, 52, 5, 4), (67, .iinc 4 (-1), 0, 0, 0), (70, .goto (-40), 0, 0, 0)] : List zz_i)),
  (73, 79, ([(73, .iinc 3 (-1), 0, 0, 0), (76, .goto (-56), 0, 0, 0)] : List zz_i)),
  (79, 91, ([(79, .aload_n 0, 0, 0, 0), (80, .iconst 0, 0, 0, 0), (81, .iconst 0, 0, 0, 0), (82, .iconst 0, 0, 0, 0), (83, .invokevirtual 81, 51, 4, 4), (86, .ifCond .ge 5, 0, 0, 0), (89, .iconst 0, 0, 0, 0), (90, .ireturn, 0, 0, 0)] : List zz_i)),
  (91, 97, ([(91, .aload_n 0, 0, 0, 0), (92, .invokevirtual 104, 66, 1, 4), (95, .iconst 1, 0, 0, 0), (96, .ireturn, 0, 0, 0)] : List zz_i))])
/-- 66: X4_followLatest followLatest()V  -/
def zm_66 : zz_MI := (⟨"OneStageTwoPlays$Loom", "followLatest", "()V"⟩, prog_6_method_22_code, 9, none, [(0, 23, ([(0, .iconst 0, 0, 0, 0), (1, .istore_n 1, 0, 0, 0), (2, .iconst 0, 0, 0, 0), (3, .istore_n 2, 0, 0, 0), (4, .iconst 0, 0, 0, 0), (5, .istore_n 3, 0, 0, 0), (6, .iconst 0, 0, 0, 0), (7, .istore 4, 0, 0, 0), (9, .aload_n 0, 0, 0, 0), (10, .getfield 42, 4, 6, 0), (13, .aload_n 0, 0, 0, 0), (14, .getfield 46, 4, 7, 0), (17, .iadd, 0, 0, 0), (18, .istore 5, 0, 0, 0), (20, .iconst 0, 0, 0, 0), (21, .istore 6, 0, 0, 0)] : List zz_i)),
  (23, 57, ([(23, .iload 6, 0, 0, 0), (25, .iload 5, 0, 0, 0), (27, .if_icmp .ge 111, 0, 0, 0), (30, .iload 6, 0, 0, 0), (32, .aload_n 0, 0, 0, 0), (33, .getfield 21, 4, 4, 0), (36, .arraylength, 0, 0, 0), (37, .if_icmp .ge 101, 0, 0, 0), (40, .aload_n 0, 0, 0, 0), (41, .iload_n 1, 0, 0, 0), (42, .iload_n 2, 0, 0, 0), (43, .iload_n 3, 0, 0, 0), (44, .iconst 0, 0, 0, 0), (45, .invokevirtual 98, 63, 5, 4), (48, .iload 4, 0, 0, 0), (50, .if_icmp .lt 7, 0, 0, 0), (53, .iconst 1, 0, 0, 0), (54, .goto 4, 0, 0, 0)] : List zz_i)),
  (57, 58, ([(57, .iconst 0, 0, 0, 0)] : List zz_i)),
  (58, 69, ([(58, .istore 7, 0, 0, 0), (60, .iload 7, 0, 0, 0), (62, .ifCond .eq 7, 0, 0, 0), (65, .iconst 0, 0, 0, 0), (66, .goto 4, 0, 0, 0)] : List zz_i)),
  (69, 70, ([(69, .iconst 1, 0, 0, 0)] : List zz_i)),
  (70, 99, ([(70, .istore 8, 0, 0, 0), (72, .iload 4, 0, 0, 0), (74, .aload_n 0, 0, 0, 0), (75, .iload_n 1, 0, 0, 0), (76, .iload_n 2, 0, 0, 0), (77, .iload_n 3, 0, 0, 0), (78, .iload 8, 0, 0, 0), (80, .invokevirtual 54, 53, 5, 4), (83, .iadd, 0, 0, 0), (84, .istore 4, 0, 0, 0), (86, .iload 8, 0, 0, 0), (88, .istore_n 3, 0, 0, 0), (89, .iload_n 1, 0, 0, 0), (90, .iload 7, 0, 0, 0), (92, .ifCond .eq 7, 0, 0, 0), (95, .iconst 1, 0, 0, 0), (96, .goto 4, 0, 0, 0)] : List zz_i)),
  (99, 100, ([(99, .iconst 0, 0, 0, 0)] : List zz_i)),
  (100, 112, ([(100, .iadd, 0, 0, 0), (101, .istore_n 1, 0, 0, 0), (102, .iload_n 2, 0, 0, 0), (103, .iload 7, 0, 0, 0), (105, .ifCond .eq 7, 0, 0, 0), (108, .iconst 0, 0, 0, 0), (109, .goto 4, 0, 0, 0)] : List zz_i)),
  (112, 113, ([(112, .iconst 1, 0, 0, 0)] : List zz_i)),
  (113, 138, ([(113, .iadd, 0, 0, 0), (114, .istore_n 2, 0, 0, 0), (115, .aload_n 0, 0, 0, 0), (116, .getfield 21, 4, 4, 0), (119, .iload 6, 0, 0, 0), (121, .iload 8, 0, 0, 0), (123, .iastore, 0, 0, 0), (124, .aload_n 0, 0, 0, 0), (125, .iload 6, 0, 0, 0), (127, .iconst 1, 0, 0, 0), (128, .iadd, 0, 0, 0), (129, .putfield 88, 4, 5, 0), (132, .iinc 6 1, 0, 0, 0), (135, .goto (-112), 0, 0, 0)] : List zz_i)),
  (138, 139, ([(138, .return_, 0, 0, 0)] : List zz_i))])
/-- 67: X4_reach reach(III)I  -/
def zm_67 : zz_MI := (⟨"OneStageTwoPlays$Loom", "reach", "(III)I"⟩, prog_6_method_23_code, 6, (some .int), [(0, 10, ([(0, .iload_n 1, 0, 0, 0), (1, .ifCond .ne 9, 0, 0, 0), (4, .iload_n 2, 0, 0, 0), (5, .ifCond .ne 5, 0, 0, 0), (8, .iconst 0, 0, 0, 0), (9, .ireturn, 0, 0, 0)] : List zz_i)),
  (10, 20, ([(10, .iload_n 3, 0, 0, 0), (11, .ifCond .ne 9, 0, 0, 0), (14, .iload_n 1, 0, 0, 0), (15, .iconst 1, 0, 0, 0), (16, .isub, 0, 0, 0), (17, .goto 4, 0, 0, 0)] : List zz_i)),
  (20, 21, ([(20, .iload_n 1, 0, 0, 0)] : List zz_i)),
  (21, 31, ([(21, .istore 4, 0, 0, 0), (23, .iload_n 3, 0, 0, 0), (24, .ifCond .ne 7, 0, 0, 0), (27, .iload_n 2, 0, 0, 0), (28, .goto 6, 0, 0, 0)] : List zz_i)),
  (31, 34, ([(31, .iload_n 2, 0, 0, 0), (32, .iconst 1, 0, 0, 0), (33, .isub, 0, 0, 0)] : List zz_i)),
  (34, 46, ([(34, .istore 5, 0, 0, 0), (36, .iload 4, 0, 0, 0), (38, .ifCond .lt 8, 0, 0, 0), (41, .iload 5, 0, 0, 0), (43, .ifCond .ge 6, 0, 0, 0)] : List zz_i)),
  (46, 49, ([(46, .ldc 53, 1000000, 0, 0), (48, .ireturn, 0, 0, 0)] : List zz_i)),
  (49, 93, ([(49, .aload_n 0, 0, 0, 0), (50, .iload 4, 0, 0, 0), (52, .iload 5, 0, 0, 0), (54, .iconst 0, 0, 0, 0), (55, .invokevirtual 81, 51, 4, 4), (58, .aload_n 0, 0, 0, 0), (59, .iload 4, 0, 0, 0), (61, .iload 5, 0, 0, 0), (63, .iconst 0, 0, 0, 0), (64, .iload_n 3, 0, 0, 0), (65, .invokevirtual 54, 53, 5, 4), (68, .iadd, 0, 0, 0), (69, .aload_n 0, 0, 0, 0), (70, .iload 4, 0, 0, 0), (72, .iload 5, 0, 0, 0), (74, .iconst 1, 0, 0, 0), (75, .invokevirtual 81, 51, 4, 4), (78, .aload_n 0, 0, 0, 0), (79, .iload 4, 0, 0, 0), (81, .iload 5, 0, 0, 0), (83, .iconst 1, 0, 0, 0), (84, .iload_n 3, 0, 0, 0), (85, .invokevirtual 54, 53, 5, 4), (88, .iadd, 0, 0, 0), (89, .invokestatic 70, 310, 2, 0), (92, .ireturn, 0, 0, 0)] : List zz_i))])
/-- 68: X4_fillForth fillForth()V  -/
def zm_68 : zz_MI := (⟨"OneStageTwoPlays$Loom", "fillForth", "()V"⟩, prog_6_method_24_code, 3, none, [(0, 2, ([(0, .iconst 0, 0, 0, 0), (1, .istore_n 1, 0, 0, 0)] : List zz_i)),
  (2, 12, ([(2, .iload_n 1, 0, 0, 0), (3, .aload_n 0, 0, 0, 0), (4, .getfield 42, 4, 6, 0), (7, .if_icmp .gt 53, 0, 0, 0), (10, .iconst 0, 0, 0, 0), (11, .istore_n 2, 0, 0, 0)] : List zz_i)),
  (12, 54, ([(12, .iload_n 2, 0, 0, 0), (13, .aload_n 0, 0, 0, 0), (14, .getfield 46, 4, 7, 0), (17, .if_icmp .gt 37, 0, 0, 0), (20, .aload_n 0, 0, 0, 0), (21, .iload_n 1, 0, 0, 0), (22, .iload_n 2, 0, 0, 0), (23, .iconst 0, 0, 0, 0), (24, .aload_n 0, 0, 0, 0), (25, .iload_n 1, 0, 0, 0), (26, .iload_n 2, 0, 0, 0), (27, .iconst 0, 0, 0, 0), (28, .invokevirtual 107, 67, 4, 4), (31, .invokevirtual 77, 52, 5, 4), (34, .aload_n 0, 0, 0, 0), (35, .iload_n 1, 0, 0, 0), (36, .iload_n 2, 0, 0, 0), (37, .iconst 1, 0, 0, 0), (38, .aload_n 0, 0, 0, 0), (39, .iload_n 1, 0, 0, 0), (40, .iload_n 2, 0, 0, 0), (41, .iconst 1, 0, 0, 0), (42, .invokevirtual 107, 67, 4, 4), (45, .invokevirtual 77, 52, 5, 4), (48, .iinc 2 1, 0, 0, 0), (51, .goto (-39), 0, 0, 0)] : List zz_i)),
  (54, 60, ([(54, .iinc 1 1, 0, 0, 0), (57, .goto (-55), 0, 0, 0)] : List zz_i)),
  (60, 61, ([(60, .return_, 0, 0, 0)] : List zz_i))])
/-- 69: X4_reachedWith reachedWith(III)I  -/
def zm_69 : zz_MI := (⟨"OneStageTwoPlays$Loom", "reachedWith", "(III)I"⟩, prog_6_method_25_code, 4, (some .int), [(0, 14, ([(0, .iload_n 1, 0, 0, 0), (1, .ifCond .ne 13, 0, 0, 0), (4, .aload_n 0, 0, 0, 0), (5, .iload_n 2, 0, 0, 0), (6, .iload_n 3, 0, 0, 0), (7, .iconst 0, 0, 0, 0), (8, .invokevirtual 81, 51, 4, 4), (11, .goto 10, 0, 0, 0)] : List zz_i)),
  (14, 21, ([(14, .aload_n 0, 0, 0, 0), (15, .iload_n 3, 0, 0, 0), (16, .iload_n 2, 0, 0, 0), (17, .iconst 1, 0, 0, 0), (18, .invokevirtual 81, 51, 4, 4)] : List zz_i)),
  (21, 22, ([(21, .ireturn, 0, 0, 0)] : List zz_i))])
/-- 70: X4_soonestWith soonestWith(II)I  -/
def zm_70 : zz_MI := (⟨"OneStageTwoPlays$Loom", "soonestWith", "(II)I"⟩, prog_6_method_26_code, 5, (some .int), [(0, 6, ([(0, .ldc 53, 1000000, 0, 0), (2, .istore_n 3, 0, 0, 0), (3, .iconst 0, 0, 0, 0), (4, .istore 4, 0, 0, 0)] : List zz_i)),
  (6, 37, ([(6, .iload 4, 0, 0, 0), (8, .aload_n 0, 0, 0, 0), (9, .iconst 1, 0, 0, 0), (10, .iload_n 1, 0, 0, 0), (11, .isub, 0, 0, 0), (12, .invokevirtual 110, 49, 2, 4), (15, .if_icmp .gt 22, 0, 0, 0), (18, .iload_n 3, 0, 0, 0), (19, .aload_n 0, 0, 0, 0), (20, .iload_n 1, 0, 0, 0), (21, .iload_n 2, 0, 0, 0), (22, .iload 4, 0, 0, 0), (24, .invokevirtual 113, 69, 4, 4), (27, .invokestatic 70, 310, 2, 0), (30, .istore_n 3, 0, 0, 0), (31, .iinc 4 1, 0, 0, 0), (34, .goto (-28), 0, 0, 0)] : List zz_i)),
  (37, 39, ([(37, .iload_n 3, 0, 0, 0), (38, .ireturn, 0, 0, 0)] : List zz_i))])
/-- 71: X4_fewestOthers fewestOthers(III)I  -/
def zm_71 : zz_MI := (⟨"OneStageTwoPlays$Loom", "fewestOthers", "(III)I"⟩, prog_6_method_27_code, 5, (some .int), [(0, 3, ([(0, .iconst 0, 0, 0, 0), (1, .istore 4, 0, 0, 0)] : List zz_i)),
  (3, 30, ([(3, .iload 4, 0, 0, 0), (5, .aload_n 0, 0, 0, 0), (6, .iconst 1, 0, 0, 0), (7, .iload_n 1, 0, 0, 0), (8, .isub, 0, 0, 0), (9, .invokevirtual 110, 49, 2, 4), (12, .if_icmp .gt 24, 0, 0, 0), (15, .aload_n 0, 0, 0, 0), (16, .iload_n 1, 0, 0, 0), (17, .iload_n 2, 0, 0, 0), (18, .iload 4, 0, 0, 0), (20, .invokevirtual 113, 69, 4, 4), (23, .iload_n 3, 0, 0, 0), (24, .if_icmp .ne 6, 0, 0, 0), (27, .iload 4, 0, 0, 0), (29, .ireturn, 0, 0, 0)] : List zz_i)),
  (30, 36, ([(30, .iinc 4 1, 0, 0, 0), (33, .goto (-30), 0, 0, 0)] : List zz_i)),
  (36, 38, ([(36, .iconst 0, 0, 0, 0), (37, .ireturn, 0, 0, 0)] : List zz_i))])
/-- 72: X4_soonestOf soonestOf(I)I  -/
def zm_72 : zz_MI := (⟨"OneStageTwoPlays$Loom", "soonestOf", "(I)I"⟩, prog_6_method_28_code, 5, (some .int), [(0, 5, ([(0, .ldc 53, 1000000, 0, 0), (2, .istore_n 2, 0, 0, 0), (3, .iconst 0, 0, 0, 0), (4, .istore_n 3, 0, 0, 0)] : List zz_i)),
  (5, 56, ([(5, .iload_n 3, 0, 0, 0), (6, .aload_n 0, 0, 0, 0), (7, .getfield 42, 4, 6, 0), (10, .if_icmp .gt 52, 0, 0, 0), (13, .iload_n 1, 0, 0, 0), (14, .iload_n 3, 0, 0, 0), (15, .isub, 0, 0, 0), (16, .istore 4, 0, 0, 0), (18, .iload 4, 0, 0, 0), (20, .ifCond .lt 36, 0, 0, 0), (23, .iload 4, 0, 0, 0), (25, .aload_n 0, 0, 0, 0), (26, .getfield 46, 4, 7, 0), (29, .if_icmp .gt 27, 0, 0, 0), (32, .iload_n 2, 0, 0, 0), (33, .aload_n 0, 0, 0, 0), (34, .iload_n 3, 0, 0, 0), (35, .iload 4, 0, 0, 0), (37, .iconst 0, 0, 0, 0), (38, .invokevirtual 81, 51, 4, 4), (41, .aload_n 0, 0, 0, 0), (42, .iload_n 3, 0, 0, 0), (43, .iload 4, 0, 0, 0), (45, .iconst 1, 0, 0, 0), (46, .invokevirtual 81, 51, 4, 4), (49, .invokestatic 70, 310, 2, 0), (52, .invokestatic 70, 310, 2, 0), (55, .istore_n 2, 0, 0, 0)] : List zz_i)),
  (56, 62, ([(56, .iinc 3 1, 0, 0, 0), (59, .goto (-54), 0, 0, 0)] : List zz_i)),
  (62, 64, ([(62, .iload_n 2, 0, 0, 0), (63, .ireturn, 0, 0, 0)] : List zz_i))])
/-- 73: X4_findCut findCut(II)I  -/
def zm_73 : zz_MI := (⟨"OneStageTwoPlays$Loom", "findCut", "(II)I"⟩, prog_6_method_29_code, 3, (some .int), [(0, 65, ([(0, .aload_n 0, 0, 0, 0), (1, .iload_n 2, 0, 0, 0), (2, .putfield 116, 4, 14, 0), (5, .aload_n 0, 0, 0, 0), (6, .iload_n 1, 0, 0, 0), (7, .putfield 119, 4, 10, 0), (10, .aload_n 0, 0, 0, 0), (11, .iconst 0, 0, 0, 0), (12, .putfield 122, 4, 11, 0), (15, .aload_n 0, 0, 0, 0), (16, .aload_n 0, 0, 0, 0), (17, .getfield 24, 4, 0, 0), (20, .iload_n 1, 0, 0, 0), (21, .bipush 6, 0, 0, 0), (23, .invokevirtual 125, 118, 3, 8), (26, .putfield 128, 4, 12, 0), (29, .aload_n 0, 0, 0, 0), (30, .iload_n 1, 0, 0, 0), (31, .invokestatic 131, 308, 1, 0), (34, .putfield 136, 4, 13, 0), (37, .aload_n 0, 0, 0, 0), (38, .aload_n 0, 0, 0, 0), (39, .iload_n 1, 0, 0, 0), (40, .invokevirtual 139, 74, 2, 4), (43, .putfield 142, 4, 15, 0), (46, .aload_n 0, 0, 0, 0), (47, .iload_n 1, 0, 0, 0), (48, .bipush 11, 0, 0, 0), (50, .iconst 0, 0, 0, 0), (51, .iconst 0, 0, 0, 0), (52, .aload_n 0, 0, 0, 0), (53, .getfield 142, 4, 15, 0), (56, .ineg, 0, 0, 0), (57, .invokevirtual 145, 75, 6, 4), (60, .aload_n 0, 0, 0, 0), (61, .getfield 128, 4, 12, 0), (64, .ireturn, 0, 0, 0)] : List zz_i))])
/-- 74: X4_leastChangeAmong leastChangeAmong(I)I  -/
def zm_74 : zz_MI := (⟨"OneStageTwoPlays$Loom", "leastChangeAmong", "(I)I"⟩, prog_6_method_30_code, 7, (some .int), [(0, 5, ([(0, .bipush 99, 0, 0, 0), (2, .istore_n 2, 0, 0, 0), (3, .iconst 0, 0, 0, 0), (4, .istore_n 3, 0, 0, 0)] : List zz_i)),
  (5, 25, ([(5, .iload_n 3, 0, 0, 0), (6, .bipush 12, 0, 0, 0), (8, .if_icmp .ge 81, 0, 0, 0), (11, .aload_n 0, 0, 0, 0), (12, .getfield 24, 4, 0, 0), (15, .iload_n 3, 0, 0, 0), (16, .iconst 1, 0, 0, 0), (17, .invokevirtual 28, 114, 3, 8), (20, .istore 4, 0, 0, 0), (22, .iconst 0, 0, 0, 0), (23, .istore 5, 0, 0, 0)] : List zz_i)),
  (25, 77, ([(25, .iload 5, 0, 0, 0), (27, .bipush 12, 0, 0, 0), (29, .if_icmp .ge 54, 0, 0, 0), (32, .iconst 1, 0, 0, 0), (33, .iload 5, 0, 0, 0), (35, .ishl, 0, 0, 0), (36, .iconst 1, 0, 0, 0), (37, .iload_n 3, 0, 0, 0), (38, .ishl, 0, 0, 0), (39, .ior, 0, 0, 0), (40, .istore 6, 0, 0, 0), (42, .iload 5, 0, 0, 0), (44, .iload_n 3, 0, 0, 0), (45, .if_icmp .eq 32, 0, 0, 0), (48, .iload_n 1, 0, 0, 0), (49, .iload 6, 0, 0, 0), (51, .iand, 0, 0, 0), (52, .iload 6, 0, 0, 0), (54, .if_icmp .ne 23, 0, 0, 0), (57, .iload_n 2, 0, 0, 0), (58, .aload_n 0, 0, 0, 0), (59, .getfield 11, 4, 1, 0), (62, .iload 5, 0, 0, 0), (64, .bipush 12, 0, 0, 0), (66, .imul, 0, 0, 0), (67, .iload_n 3, 0, 0, 0), (68, .iadd, 0, 0, 0), (69, .iaload, 0, 0, 0), (70, .iload 4, 0, 0, 0), (72, .isub, 0, 0, 0), (73, .invokestatic 70, 310, 2, 0), (76, .istore_n 2, 0, 0, 0)] : List zz_i)),
  (77, 83, ([(77, .iinc 5 1, 0, 0, 0), (80, .goto (-55), 0, 0, 0)] : List zz_i)),
  (83, 89, ([(83, .iinc 3 1, 0, 0, 0), (86, .goto (-81), 0, 0, 0)] : List zz_i)),
  (89, 91, ([(89, .iload_n 2, 0, 0, 0), (90, .ireturn, 0, 0, 0)] : List zz_i))])
/-- 75: X4_tryCuts tryCuts(IIIII)V  -/
def zm_75 : zz_MI := (⟨"OneStageTwoPlays$Loom", "tryCuts", "(IIIII)V"⟩, prog_6_method_31_code, 9, none, [(0, 33, ([(0, .iload_n 3, 0, 0, 0), (1, .invokestatic 131, 308, 1, 0), (4, .istore 6, 0, 0, 0), (6, .iload 4, 0, 0, 0), (8, .aload_n 0, 0, 0, 0), (9, .getfield 128, 4, 12, 0), (12, .if_icmp .lt 21, 0, 0, 0), (15, .iload 4, 0, 0, 0), (17, .aload_n 0, 0, 0, 0), (18, .getfield 128, 4, 12, 0), (21, .if_icmp .ne 16, 0, 0, 0), (24, .iload 6, 0, 0, 0), (26, .aload_n 0, 0, 0, 0), (27, .getfield 136, 4, 13, 0), (30, .if_icmp .ge 7, 0, 0, 0)] : List zz_i)),
  (33, 37, ([(33, .iconst 1, 0, 0, 0), (34, .goto 4, 0, 0, 0)] : List zz_i)),
  (37, 38, ([(37, .iconst 0, 0, 0, 0)] : List zz_i)),
  (38, 54, ([(38, .istore 7, 0, 0, 0), (40, .iload 7, 0, 0, 0), (42, .ifCond .eq 12, 0, 0, 0), (45, .iload 5, 0, 0, 0), (47, .aload_n 0, 0, 0, 0), (48, .getfield 116, 4, 14, 0), (51, .if_icmp .le 4, 0, 0, 0)] : List zz_i)),
  (54, 55, ([(54, .return_, 0, 0, 0)] : List zz_i)),
  (55, 68, ([(55, .iload_n 2, 0, 0, 0), (56, .ifCond .ge 12, 0, 0, 0), (59, .aload_n 0, 0, 0, 0), (60, .iload_n 1, 0, 0, 0), (61, .iload_n 3, 0, 0, 0), (62, .iload 4, 0, 0, 0), (64, .invokevirtual 149, 76, 4, 4), (67, .return_, 0, 0, 0)] : List zz_i)),
  (68, 94, ([(68, .iconst 1, 0, 0, 0), (69, .iload_n 2, 0, 0, 0), (70, .ishl, 0, 0, 0), (71, .istore 8, 0, 0, 0), (73, .iload_n 1, 0, 0, 0), (74, .iload 8, 0, 0, 0), (76, .iand, 0, 0, 0), (77, .ifCond .ne 17, 0, 0, 0), (80, .aload_n 0, 0, 0, 0), (81, .iload_n 1, 0, 0, 0), (82, .iload_n 2, 0, 0, 0), (83, .iconst 1, 0, 0, 0), (84, .isub, 0, 0, 0), (85, .iload_n 3, 0, 0, 0), (86, .iload 4, 0, 0, 0), (88, .iload 5, 0, 0, 0), (90, .invokevirtual 145, 75, 6, 4), (93, .return_, 0, 0, 0)] : List zz_i)),
  (94, 150, ([(94, .aload_n 0, 0, 0, 0), (95, .iload_n 1, 0, 0, 0), (96, .iload_n 2, 0, 0, 0), (97, .iconst 1, 0, 0, 0), (98, .isub, 0, 0, 0), (99, .iload_n 3, 0, 0, 0), (100, .iload 4, 0, 0, 0), (102, .iload 5, 0, 0, 0), (104, .aload_n 0, 0, 0, 0), (105, .getfield 142, 4, 15, 0), (108, .iadd, 0, 0, 0), (109, .aload_n 0, 0, 0, 0), (110, .getfield 24, 4, 0, 0), (113, .iload_n 2, 0, 0, 0), (114, .iconst 1, 0, 0, 0), (115, .invokevirtual 28, 114, 3, 8), (118, .iadd, 0, 0, 0), (119, .invokevirtual 145, 75, 6, 4), (122, .aload_n 0, 0, 0, 0), (123, .iload_n 1, 0, 0, 0), (124, .iload_n 2, 0, 0, 0), (125, .iconst 1, 0, 0, 0), (126, .isub, 0, 0, 0), (127, .iload_n 3, 0, 0, 0), (128, .iload 8, 0, 0, 0), (130, .ior, 0, 0, 0), (131, .iload 4, 0, 0, 0), (133, .aload_n 0, 0, 0, 0), (134, .getfield 24, 4, 0, 0), (137, .iload_n 2, 0, 0, 0), (138, .bipush 6, 0, 0, 0), (140, .invokevirtual 28, 114, 3, 8), (143, .iadd, 0, 0, 0), (144, .iload 5, 0, 0, 0), (146, .invokevirtual 145, 75, 6, 4), (149, .return_, 0, 0, 0)] : List zz_i))])
/-- 76: X4_takeCut takeCut(III)V  -/
def zm_76 : zz_MI := (⟨"OneStageTwoPlays$Loom", "takeCut", "(III)V"⟩, prog_6_method_32_code, 5, none, [(0, 49, ([(0, .aload_n 0, 0, 0, 0), (1, .iload_n 1, 0, 0, 0), (2, .iload_n 2, 0, 0, 0), (3, .iconst (-1), 0, 0, 0), (4, .ixor, 0, 0, 0), (5, .iand, 0, 0, 0), (6, .invokevirtual 153, 47, 2, 4), (9, .aload_n 0, 0, 0, 0), (10, .iconst 0, 0, 0, 0), (11, .invokevirtual 84, 57, 2, 4), (14, .istore 4, 0, 0, 0), (16, .iload 4, 0, 0, 0), (18, .aload_n 0, 0, 0, 0), (19, .getfield 116, 4, 14, 0), (22, .if_icmp .gt 27, 0, 0, 0), (25, .aload_n 0, 0, 0, 0), (26, .iload_n 2, 0, 0, 0), (27, .putfield 119, 4, 10, 0), (30, .aload_n 0, 0, 0, 0), (31, .iload 4, 0, 0, 0), (33, .putfield 122, 4, 11, 0), (36, .aload_n 0, 0, 0, 0), (37, .iload_n 3, 0, 0, 0), (38, .putfield 128, 4, 12, 0), (41, .aload_n 0, 0, 0, 0), (42, .iload_n 2, 0, 0, 0), (43, .invokestatic 131, 308, 1, 0), (46, .putfield 136, 4, 13, 0)] : List zz_i)),
  (49, 50, ([(49, .return_, 0, 0, 0)] : List zz_i))])
/-- 77: X5_init <init>()V  -/
def zm_77 : zz_MI := (⟨"OneStageTwoPlays$Night", "<init>", "()V"⟩, prog_7_method_1_code, 1, none, [(0, 10, ([(0, .aload_n 0, 0, 0, 0), (1, .invokespecial 3, 999, 1, 0), (4, .aload_n 0, 0, 0, 0), (5, .iconst (-1), 0, 0, 0), (6, .putfield 9, 5, 1, 0), (9, .return_, 0, 0, 0)] : List zz_i))])
/-- 78: X5_copyFrom copyFrom(LOneStageTwoPlays$Night;)V  -/
def zm_78 : zz_MI := (⟨"OneStageTwoPlays$Night", "copyFrom", "(LOneStageTwoPlays$Night;)V"⟩, prog_7_method_2_code, 2, none, [(0, 73, ([(0, .aload_n 0, 0, 0, 0), (1, .aload_n 1, 0, 0, 0), (2, .getfield 15, 5, 0, 0), (5, .putfield 15, 5, 0, 0), (8, .aload_n 0, 0, 0, 0), (9, .aload_n 1, 0, 0, 0), (10, .getfield 9, 5, 1, 0), (13, .putfield 9, 5, 1, 0), (16, .aload_n 0, 0, 0, 0), (17, .aload_n 1, 0, 0, 0), (18, .getfield 18, 5, 2, 0), (21, .putfield 18, 5, 2, 0), (24, .aload_n 0, 0, 0, 0), (25, .aload_n 1, 0, 0, 0), (26, .getfield 21, 5, 3, 0), (29, .putfield 21, 5, 3, 0), (32, .aload_n 0, 0, 0, 0), (33, .aload_n 1, 0, 0, 0), (34, .getfield 24, 5, 4, 0), (37, .putfield 24, 5, 4, 0), (40, .aload_n 0, 0, 0, 0), (41, .aload_n 1, 0, 0, 0), (42, .getfield 27, 5, 5, 0), (45, .putfield 27, 5, 5, 0), (48, .aload_n 0, 0, 0, 0), (49, .aload_n 1, 0, 0, 0), (50, .getfield 30, 5, 6, 0), (53, .putfield 30, 5, 6, 0), (56, .aload_n 0, 0, 0, 0), (57, .aload_n 1, 0, 0, 0), (58, .getfield 33, 5, 7, 0), (61, .putfield 33, 5, 7, 0), (64, .aload_n 0, 0, 0, 0), (65, .aload_n 1, 0, 0, 0), (66, .getfield 36, 5, 8, 0), (69, .putfield 36, 5, 8, 0), (72, .return_, 0, 0, 0)] : List zz_i))])
/-- 79: X5_knownIn knownIn(I)I  -/
def zm_79 : zz_MI := (⟨"OneStageTwoPlays$Night", "knownIn", "(I)I"⟩, prog_7_method_3_code, 2, (some .int), [(0, 11, ([(0, .iload_n 1, 0, 0, 0), (1, .ifCond .ne 10, 0, 0, 0), (4, .aload_n 0, 0, 0, 0), (5, .getfield 27, 5, 5, 0), (8, .goto 7, 0, 0, 0)] : List zz_i)),
  (11, 15, ([(11, .aload_n 0, 0, 0, 0), (12, .getfield 30, 5, 6, 0)] : List zz_i)),
  (15, 16, ([(15, .ireturn, 0, 0, 0)] : List zz_i))])
/-- 80: X5_cheersIn cheersIn(I)I  -/
def zm_80 : zz_MI := (⟨"OneStageTwoPlays$Night", "cheersIn", "(I)I"⟩, prog_7_method_4_code, 2, (some .int), [(0, 11, ([(0, .iload_n 1, 0, 0, 0), (1, .ifCond .ne 10, 0, 0, 0), (4, .aload_n 0, 0, 0, 0), (5, .getfield 33, 5, 7, 0), (8, .goto 7, 0, 0, 0)] : List zz_i)),
  (11, 15, ([(11, .aload_n 0, 0, 0, 0), (12, .getfield 36, 5, 8, 0)] : List zz_i)),
  (15, 16, ([(15, .ireturn, 0, 0, 0)] : List zz_i))])
/-- 81: X5_stateOf stateOf(I)I  -/
def zm_81 : zz_MI := (⟨"OneStageTwoPlays$Night", "stateOf", "(I)I"⟩, prog_7_method_5_code, 3, (some .int), [(0, 15, ([(0, .iconst 1, 0, 0, 0), (1, .iload_n 1, 0, 0, 0), (2, .ishl, 0, 0, 0), (3, .istore_n 2, 0, 0, 0), (4, .aload_n 0, 0, 0, 0), (5, .getfield 21, 5, 3, 0), (8, .iload_n 2, 0, 0, 0), (9, .iand, 0, 0, 0), (10, .ifCond .eq 5, 0, 0, 0), (13, .iconst 1, 0, 0, 0), (14, .ireturn, 0, 0, 0)] : List zz_i)),
  (15, 28, ([(15, .aload_n 0, 0, 0, 0), (16, .getfield 24, 5, 4, 0), (19, .iload_n 2, 0, 0, 0), (20, .iand, 0, 0, 0), (21, .ifCond .eq 7, 0, 0, 0), (24, .iconst 2, 0, 0, 0), (25, .goto 4, 0, 0, 0)] : List zz_i)),
  (28, 29, ([(28, .iconst 0, 0, 0, 0)] : List zz_i)),
  (29, 30, ([(29, .ireturn, 0, 0, 0)] : List zz_i))])
/-- 82: X5_drop drop(I)V  -/
def zm_82 : zz_MI := (⟨"OneStageTwoPlays$Night", "drop", "(I)V"⟩, prog_7_method_6_code, 3, none, [(0, 27, ([(0, .iconst 1, 0, 0, 0), (1, .iload_n 1, 0, 0, 0), (2, .ishl, 0, 0, 0), (3, .istore_n 2, 0, 0, 0), (4, .aload_n 0, 0, 0, 0), (5, .dup, 0, 0, 0), (6, .getfield 18, 5, 2, 0), (9, .iload_n 2, 0, 0, 0), (10, .iconst (-1), 0, 0, 0), (11, .ixor, 0, 0, 0), (12, .iand, 0, 0, 0), (13, .putfield 18, 5, 2, 0), (16, .aload_n 0, 0, 0, 0), (17, .dup, 0, 0, 0), (18, .getfield 24, 5, 4, 0), (21, .iload_n 2, 0, 0, 0), (22, .ior, 0, 0, 0), (23, .putfield 24, 5, 4, 0), (26, .return_, 0, 0, 0)] : List zz_i))])
/-- 83: X5_takeBack takeBack(I)V  -/
def zm_83 : zz_MI := (⟨"OneStageTwoPlays$Night", "takeBack", "(I)V"⟩, prog_7_method_7_code, 3, none, [(0, 27, ([(0, .iconst 1, 0, 0, 0), (1, .iload_n 1, 0, 0, 0), (2, .ishl, 0, 0, 0), (3, .istore_n 2, 0, 0, 0), (4, .aload_n 0, 0, 0, 0), (5, .dup, 0, 0, 0), (6, .getfield 24, 5, 4, 0), (9, .iload_n 2, 0, 0, 0), (10, .iconst (-1), 0, 0, 0), (11, .ixor, 0, 0, 0), (12, .iand, 0, 0, 0), (13, .putfield 24, 5, 4, 0), (16, .aload_n 0, 0, 0, 0), (17, .dup, 0, 0, 0), (18, .getfield 18, 5, 2, 0), (21, .iload_n 2, 0, 0, 0), (22, .ior, 0, 0, 0), (23, .putfield 18, 5, 2, 0), (26, .return_, 0, 0, 0)] : List zz_i))])
/-- 84: X5_perform perform(LOneStageTwoPlays$Script;II)I  -/
def zm_84 : zz_MI := (⟨"OneStageTwoPlays$Night", "perform", "(LOneStageTwoPlays$Script;II)I"⟩, prog_7_method_8_code, 7, (some .int), [(0, 105, ([(0, .aload_n 1, 0, 0, 0), (1, .iload_n 2, 0, 0, 0), (2, .iconst 0, 0, 0, 0), (3, .invokevirtual 39, 114, 3, 8), (6, .istore 4, 0, 0, 0), (8, .aload_n 1, 0, 0, 0), (9, .iload_n 2, 0, 0, 0), (10, .aload_n 0, 0, 0, 0), (11, .iload 4, 0, 0, 0), (13, .invokevirtual 45, 79, 2, 5), (16, .invokevirtual 49, 121, 3, 8), (19, .istore 5, 0, 0, 0), (21, .iconst 1, 0, 0, 0), (22, .iload_n 2, 0, 0, 0), (23, .ishl, 0, 0, 0), (24, .istore 6, 0, 0, 0), (26, .aload_n 0, 0, 0, 0), (27, .dup, 0, 0, 0), (28, .getfield 15, 5, 0, 0), (31, .iload_n 3, 0, 0, 0), (32, .aload_n 1, 0, 0, 0), (33, .iload_n 2, 0, 0, 0), (34, .iconst 1, 0, 0, 0), (35, .invokevirtual 39, 114, 3, 8), (38, .iadd, 0, 0, 0), (39, .iadd, 0, 0, 0), (40, .putfield 15, 5, 0, 0), (43, .aload_n 0, 0, 0, 0), (44, .iload_n 2, 0, 0, 0), (45, .putfield 9, 5, 1, 0), (48, .aload_n 0, 0, 0, 0), (49, .dup, 0, 0, 0), (50, .getfield 18, 5, 2, 0), (53, .iload 6, 0, 0, 0), (55, .iconst (-1), 0, 0, 0), (56, .ixor, 0, 0, 0), (57, .iand, 0, 0, 0), (58, .putfield 18, 5, 2, 0), (61, .aload_n 0, 0, 0, 0), (62, .dup, 0, 0, 0), (63, .getfield 21, 5, 3, 0), (66, .iload 6, 0, 0, 0), (68, .ior, 0, 0, 0), (69, .putfield 21, 5, 3, 0), (72, .iload 4, 0, 0, 0), (74, .ifCond .ne 31, 0, 0, 0), (77, .aload_n 0, 0, 0, 0), (78, .dup, 0, 0, 0), (79, .getfield 33, 5, 7, 0), (82, .iload 5, 0, 0, 0), (84, .iadd, 0, 0, 0), (85, .putfield 33, 5, 7, 0), (88, .aload_n 0, 0, 0, 0), (89, .dup, 0, 0, 0), (90, .getfield 27, 5, 5, 0), (93, .aload_n 1, 0, 0, 0), (94, .iload_n 2, 0, 0, 0), (95, .invokevirtual 52, 122, 2, 8), (98, .ior, 0, 0, 0), (99, .putfield 27, 5, 5, 0), (102, .goto 28, 0, 0, 0)] : List zz_i)),
  (105, 130, ([(105, .aload_n 0, 0, 0, 0), (106, .dup, 0, 0, 0), (107, .getfield 36, 5, 8, 0), (110, .iload 5, 0, 0, 0), (112, .iadd, 0, 0, 0), (113, .putfield 36, 5, 8, 0), (116, .aload_n 0, 0, 0, 0), (117, .dup, 0, 0, 0), (118, .getfield 30, 5, 6, 0), (121, .aload_n 1, 0, 0, 0), (122, .iload_n 2, 0, 0, 0), (123, .invokevirtual 52, 122, 2, 8), (126, .ior, 0, 0, 0), (127, .putfield 30, 5, 6, 0)] : List zz_i)),
  (130, 133, ([(130, .iload 5, 0, 0, 0), (132, .ireturn, 0, 0, 0)] : List zz_i))])
/-- 85: X6_init <init>()V  -/
def zm_85 : zz_MI := (⟨"OneStageTwoPlays$Past", "<init>", "()V"⟩, prog_8_method_1_code, 2, none, [(0, 41, ([(0, .aload_n 0, 0, 0, 0), (1, .invokespecial 3, 999, 1, 0), (4, .aload_n 0, 0, 0, 0), (5, .bipush 12, 0, 0, 0), (7, .anewarray 9, 0, 0, 0), (10, .putfield 11, 6, 0, 0), (13, .aload_n 0, 0, 0, 0), (14, .iconst 2, 0, 0, 0), (15, .anewarray 9, 0, 0, 0), (18, .putfield 17, 6, 1, 0), (21, .aload_n 0, 0, 0, 0), (22, .iconst 2, 0, 0, 0), (23, .newarray .boolean, 0, 0, 0), (25, .putfield 20, 6, 2, 0), (28, .aload_n 0, 0, 0, 0), (29, .new 9, 5, 0, 0), (32, .dup, 0, 0, 0), (33, .invokespecial 24, 77, 1, 1), (36, .putfield 25, 6, 3, 0), (39, .iconst 0, 0, 0, 0), (40, .istore_n 1, 0, 0, 0)] : List zz_i)),
  (41, 66, ([(41, .iload_n 1, 0, 0, 0), (42, .bipush 12, 0, 0, 0), (44, .if_icmp .ge 22, 0, 0, 0), (47, .aload_n 0, 0, 0, 0), (48, .getfield 11, 6, 0, 0), (51, .iload_n 1, 0, 0, 0), (52, .new 9, 5, 0, 0), (55, .dup, 0, 0, 0), (56, .invokespecial 24, 77, 1, 1), (59, .aastore, 0, 0, 0), (60, .iinc 1 1, 0, 0, 0), (63, .goto (-22), 0, 0, 0)] : List zz_i)),
  (66, 68, ([(66, .iconst 0, 0, 0, 0), (67, .istore_n 1, 0, 0, 0)] : List zz_i)),
  (68, 92, ([(68, .iload_n 1, 0, 0, 0), (69, .iconst 2, 0, 0, 0), (70, .if_icmp .ge 22, 0, 0, 0), (73, .aload_n 0, 0, 0, 0), (74, .getfield 17, 6, 1, 0), (77, .iload_n 1, 0, 0, 0), (78, .new 9, 5, 0, 0), (81, .dup, 0, 0, 0), (82, .invokespecial 24, 77, 1, 1), (85, .aastore, 0, 0, 0), (86, .iinc 1 1, 0, 0, 0), (89, .goto (-21), 0, 0, 0)] : List zz_i)),
  (92, 93, ([(92, .return_, 0, 0, 0)] : List zz_i))])
/-- 86: X6_push push(LOneStageTwoPlays$Night;)V  -/
def zm_86 : zz_MI := (⟨"OneStageTwoPlays$Past", "push", "(LOneStageTwoPlays$Night;)V"⟩, prog_8_method_2_code, 2, none, [(0, 50, ([(0, .aload_n 0, 0, 0, 0), (1, .getfield 29, 6, 4, 0), (4, .ifCond .lt 65, 0, 0, 0), (7, .aload_n 0, 0, 0, 0), (8, .getfield 29, 6, 4, 0), (11, .bipush 12, 0, 0, 0), (13, .if_icmp .ge 56, 0, 0, 0), (16, .aload_n 0, 0, 0, 0), (17, .getfield 11, 6, 0, 0), (20, .aload_n 0, 0, 0, 0), (21, .getfield 29, 6, 4, 0), (24, .aaload, 0, 0, 0), (25, .aload_n 1, 0, 0, 0), (26, .invokevirtual 33, 78, 2, 5), (29, .aload_n 0, 0, 0, 0), (30, .aload_n 0, 0, 0, 0), (31, .getfield 29, 6, 4, 0), (34, .iconst 1, 0, 0, 0), (35, .iadd, 0, 0, 0), (36, .bipush 12, 0, 0, 0), (38, .if_icmp .ge 12, 0, 0, 0), (41, .aload_n 0, 0, 0, 0), (42, .getfield 29, 6, 4, 0), (45, .iconst 1, 0, 0, 0), (46, .iadd, 0, 0, 0), (47, .goto 4, 0, 0, 0)] : List zz_i)),
  (50, 51, ([(50, .iconst 0, 0, 0, 0)] : List zz_i)),
  (51, 69, ([(51, .putfield 29, 6, 4, 0), (54, .aload_n 0, 0, 0, 0), (55, .bipush 12, 0, 0, 0), (57, .aload_n 0, 0, 0, 0), (58, .getfield 37, 6, 5, 0), (61, .iconst 1, 0, 0, 0), (62, .iadd, 0, 0, 0), (63, .invokestatic 40, 310, 2, 0), (66, .putfield 37, 6, 5, 0)] : List zz_i)),
  (69, 70, ([(69, .return_, 0, 0, 0)] : List zz_i))])
/-- 87: X6_hold hold(LOneStageTwoPlays$Night;)V  -/
def zm_87 : zz_MI := (⟨"OneStageTwoPlays$Past", "hold", "(LOneStageTwoPlays$Night;)V"⟩, prog_8_method_3_code, 2, none, [(0, 9, ([(0, .aload_n 0, 0, 0, 0), (1, .getfield 25, 6, 3, 0), (4, .aload_n 1, 0, 0, 0), (5, .invokevirtual 33, 78, 2, 5), (8, .return_, 0, 0, 0)] : List zz_i))])
/-- 88: X6_pushHeld pushHeld()V  -/
def zm_88 : zz_MI := (⟨"OneStageTwoPlays$Past", "pushHeld", "()V"⟩, prog_8_method_4_code, 1, none, [(0, 9, ([(0, .aload_n 0, 0, 0, 0), (1, .aload_n 0, 0, 0, 0), (2, .getfield 25, 6, 3, 0), (5, .invokevirtual 46, 86, 2, 6), (8, .return_, 0, 0, 0)] : List zz_i))])
/-- 89: X6_putHeldInto putHeldInto(LOneStageTwoPlays$Night;)V  -/
def zm_89 : zz_MI := (⟨"OneStageTwoPlays$Past", "putHeldInto", "(LOneStageTwoPlays$Night;)V"⟩, prog_8_method_5_code, 2, none, [(0, 9, ([(0, .aload_n 1, 0, 0, 0), (1, .aload_n 0, 0, 0, 0), (2, .getfield 25, 6, 3, 0), (5, .invokevirtual 33, 78, 2, 5), (8, .return_, 0, 0, 0)] : List zz_i))])
/-- 90: X6_popInto popInto(LOneStageTwoPlays$Night;)I  -/
def zm_90 : zz_MI := (⟨"OneStageTwoPlays$Past", "popInto", "(LOneStageTwoPlays$Night;)I"⟩, prog_8_method_6_code, 2, (some .int), [(0, 9, ([(0, .aload_n 0, 0, 0, 0), (1, .getfield 37, 6, 5, 0), (4, .ifCond .ne 5, 0, 0, 0), (7, .iconst (-1), 0, 0, 0), (8, .ireturn, 0, 0, 0)] : List zz_i)),
  (9, 26, ([(9, .aload_n 0, 0, 0, 0), (10, .aload_n 0, 0, 0, 0), (11, .getfield 29, 6, 4, 0), (14, .ifCond .le 12, 0, 0, 0), (17, .aload_n 0, 0, 0, 0), (18, .getfield 29, 6, 4, 0), (21, .iconst 1, 0, 0, 0), (22, .isub, 0, 0, 0), (23, .goto 5, 0, 0, 0)] : List zz_i)),
  (26, 28, ([(26, .bipush 11, 0, 0, 0)] : List zz_i)),
  (28, 53, ([(28, .putfield 29, 6, 4, 0), (31, .aload_n 0, 0, 0, 0), (32, .getfield 29, 6, 4, 0), (35, .bipush 12, 0, 0, 0), (37, .if_icmp .ge 16, 0, 0, 0), (40, .aload_n 1, 0, 0, 0), (41, .aload_n 0, 0, 0, 0), (42, .getfield 11, 6, 0, 0), (45, .aload_n 0, 0, 0, 0), (46, .getfield 29, 6, 4, 0), (49, .aaload, 0, 0, 0), (50, .invokevirtual 33, 78, 2, 5)] : List zz_i)),
  (53, 68, ([(53, .aload_n 0, 0, 0, 0), (54, .dup, 0, 0, 0), (55, .getfield 37, 6, 5, 0), (58, .iconst 1, 0, 0, 0), (59, .isub, 0, 0, 0), (60, .putfield 37, 6, 5, 0), (63, .aload_n 0, 0, 0, 0), (64, .getfield 37, 6, 5, 0), (67, .ireturn, 0, 0, 0)] : List zz_i))])
/-- 91: X6_forgetUndone forgetUndone()V  -/
def zm_91 : zz_MI := (⟨"OneStageTwoPlays$Past", "forgetUndone", "()V"⟩, prog_8_method_7_code, 1, none, [(0, 6, ([(0, .aload_n 0, 0, 0, 0), (1, .iconst 0, 0, 0, 0), (2, .putfield 37, 6, 5, 0), (5, .return_, 0, 0, 0)] : List zz_i))])
/-- 92: X6_clearShelves clearShelves()V  -/
def zm_92 : zz_MI := (⟨"OneStageTwoPlays$Past", "clearShelves", "()V"⟩, prog_8_method_8_code, 2, none, [(0, 2, ([(0, .iconst 0, 0, 0, 0), (1, .istore_n 1, 0, 0, 0)] : List zz_i)),
  (2, 20, ([(2, .iload_n 1, 0, 0, 0), (3, .iconst 2, 0, 0, 0), (4, .if_icmp .ge 16, 0, 0, 0), (7, .aload_n 0, 0, 0, 0), (8, .getfield 20, 6, 2, 0), (11, .iload_n 1, 0, 0, 0), (12, .iconst 0, 0, 0, 0), (13, .bastore, 0, 0, 0), (14, .iinc 1 1, 0, 0, 0), (17, .goto (-15), 0, 0, 0)] : List zz_i)),
  (20, 21, ([(20, .return_, 0, 0, 0)] : List zz_i))])
/-- 93: X6_isShelved isShelved(I)Z  -/
def zm_93 : zz_MI := (⟨"OneStageTwoPlays$Past", "isShelved", "(I)Z"⟩, prog_8_method_9_code, 2, (some .boolean), [(0, 22, ([(0, .iload_n 1, 0, 0, 0), (1, .ifCond .lt 21, 0, 0, 0), (4, .iload_n 1, 0, 0, 0), (5, .iconst 2, 0, 0, 0), (6, .if_icmp .ge 16, 0, 0, 0), (9, .aload_n 0, 0, 0, 0), (10, .getfield 20, 6, 2, 0), (13, .iload_n 1, 0, 0, 0), (14, .baload, 0, 0, 0), (15, .ifCond .eq 7, 0, 0, 0), (18, .iconst 1, 0, 0, 0), (19, .goto 4, 0, 0, 0)] : List zz_i)),
  (22, 23, ([(22, .iconst 0, 0, 0, 0)] : List zz_i)),
  (23, 24, ([(23, .ireturn, 0, 0, 0)] : List zz_i))])
/-- 94: X6_shelve shelve(ILOneStageTwoPlays$Night;)V  -/
def zm_94 : zz_MI := (⟨"OneStageTwoPlays$Past", "shelve", "(ILOneStageTwoPlays$Night;)V"⟩, prog_8_method_10_code, 3, none, [(0, 26, ([(0, .iload_n 1, 0, 0, 0), (1, .ifCond .lt 25, 0, 0, 0), (4, .iload_n 1, 0, 0, 0), (5, .iconst 2, 0, 0, 0), (6, .if_icmp .ge 20, 0, 0, 0), (9, .aload_n 0, 0, 0, 0), (10, .getfield 17, 6, 1, 0), (13, .iload_n 1, 0, 0, 0), (14, .aaload, 0, 0, 0), (15, .aload_n 2, 0, 0, 0), (16, .invokevirtual 33, 78, 2, 5), (19, .aload_n 0, 0, 0, 0), (20, .getfield 20, 6, 2, 0), (23, .iload_n 1, 0, 0, 0), (24, .iconst 1, 0, 0, 0), (25, .bastore, 0, 0, 0)] : List zz_i)),
  (26, 27, ([(26, .return_, 0, 0, 0)] : List zz_i))])
/-- 95: X6_unshelve unshelve(ILOneStageTwoPlays$Night;)V  -/
def zm_95 : zz_MI := (⟨"OneStageTwoPlays$Past", "unshelve", "(ILOneStageTwoPlays$Night;)V"⟩, prog_8_method_11_code, 3, none, [(0, 18, ([(0, .aload_n 0, 0, 0, 0), (1, .iload_n 1, 0, 0, 0), (2, .invokevirtual 49, 93, 2, 6), (5, .ifCond .eq 13, 0, 0, 0), (8, .aload_n 2, 0, 0, 0), (9, .aload_n 0, 0, 0, 0), (10, .getfield 17, 6, 1, 0), (13, .iload_n 1, 0, 0, 0), (14, .aaload, 0, 0, 0), (15, .invokevirtual 33, 78, 2, 5)] : List zz_i)),
  (18, 19, ([(18, .return_, 0, 0, 0)] : List zz_i))])
/-- 96: X7_init <init>()V  -/
def zm_96 : zz_MI := (⟨"OneStageTwoPlays$Reader", "<init>", "()V"⟩, prog_9_method_1_code, 1, none, [(0, 5, ([(0, .aload_n 0, 0, 0, 0), (1, .invokespecial 3, 999, 1, 0), (4, .return_, 0, 0, 0)] : List zz_i))])
/-- 97: X8_init <init>()V  -/
def zm_97 : zz_MI := (⟨"OneStageTwoPlays$RuleReader", "<init>", "()V"⟩, prog_10_method_1_code, 1, none, [(0, 21, ([(0, .aload_n 0, 0, 0, 0), (1, .invokespecial 3, 96, 1, 1), (4, .aload_n 0, 0, 0, 0), (5, .bipush 40, 0, 0, 0), (7, .newarray .int, 0, 0, 0), (9, .putfield 9, 7, 0, 0), (12, .aload_n 0, 0, 0, 0), (13, .bipush 40, 0, 0, 0), (15, .newarray .int, 0, 0, 0), (17, .putfield 15, 7, 1, 0), (20, .return_, 0, 0, 0)] : List zz_i))])
/-- 98: X8_begin begin()V  -/
def zm_98 : zz_MI := (⟨"OneStageTwoPlays$RuleReader", "begin", "()V"⟩, prog_10_method_2_code, 1, none, [(0, 31, ([(0, .aload_n 0, 0, 0, 0), (1, .iconst 0, 0, 0, 0), (2, .putfield 18, 7, 2, 0), (5, .aload_n 0, 0, 0, 0), (6, .iconst 0, 0, 0, 0), (7, .putfield 22, 7, 3, 0), (10, .aload_n 0, 0, 0, 0), (11, .iconst 0, 0, 0, 0), (12, .putfield 25, 7, 4, 0), (15, .aload_n 0, 0, 0, 0), (16, .iconst 0, 0, 0, 0), (17, .putfield 28, 7, 5, 0), (20, .aload_n 0, 0, 0, 0), (21, .iconst 0, 0, 0, 0), (22, .putfield 31, 7, 6, 0), (25, .aload_n 0, 0, 0, 0), (26, .iconst 1, 0, 0, 0), (27, .putfield 34, 7, 7, 0), (30, .return_, 0, 0, 0)] : List zz_i))])
/-- 99: X8_mayEnd mayEnd()Z  -/
def zm_99 : zz_MI := (⟨"OneStageTwoPlays$RuleReader", "mayEnd", "()Z"⟩, prog_10_method_3_code, 1, (some .boolean), [(0, 14, ([(0, .aload_n 0, 0, 0, 0), (1, .getfield 34, 7, 7, 0), (4, .ifCond .ne 10, 0, 0, 0), (7, .aload_n 0, 0, 0, 0), (8, .getfield 25, 7, 4, 0), (11, .ifCond .le 5, 0, 0, 0)] : List zz_i)),
  (14, 16, ([(14, .iconst 0, 0, 0, 0), (15, .ireturn, 0, 0, 0)] : List zz_i)),
  (16, 23, ([(16, .aload_n 0, 0, 0, 0), (17, .iconst 0, 0, 0, 0), (18, .invokevirtual 38, 110, 2, 7), (21, .iconst 1, 0, 0, 0), (22, .ireturn, 0, 0, 0)] : List zz_i))])
/-- 100: X8_takes takes(I)Z  -/
def zm_100 : zz_MI := (⟨"OneStageTwoPlays$RuleReader", "takes", "(I)Z"⟩, prog_10_method_4_code, 2, (some .boolean), [(0, 15, ([(0, .aload_n 0, 0, 0, 0), (1, .getfield 34, 7, 7, 0), (4, .ifCond .eq 11, 0, 0, 0), (7, .aload_n 0, 0, 0, 0), (8, .iload_n 1, 0, 0, 0), (9, .invokevirtual 42, 104, 2, 7), (12, .goto 8, 0, 0, 0)] : List zz_i)),
  (15, 20, ([(15, .aload_n 0, 0, 0, 0), (16, .iload_n 1, 0, 0, 0), (17, .invokevirtual 46, 105, 2, 7)] : List zz_i)),
  (20, 21, ([(20, .ireturn, 0, 0, 0)] : List zz_i))])
/-- 101: X8_isThing isThing(I)Z  -/
def zm_101 : zz_MI := (⟨"OneStageTwoPlays$RuleReader", "isThing", "(I)Z"⟩, prog_10_method_5_code, 1, (some .boolean), [(0, 36, ([(0, .iload_n 0, 0, 0, 0), (1, .bipush 111, 0, 0, 0), (3, .if_icmp .eq 33, 0, 0, 0), (6, .iload_n 0, 0, 0, 0), (7, .bipush 112, 0, 0, 0), (9, .if_icmp .eq 27, 0, 0, 0), (12, .iload_n 0, 0, 0, 0), (13, .bipush 113, 0, 0, 0), (15, .if_icmp .eq 21, 0, 0, 0), (18, .iload_n 0, 0, 0, 0), (19, .bipush 109, 0, 0, 0), (21, .if_icmp .eq 15, 0, 0, 0), (24, .iload_n 0, 0, 0, 0), (25, .bipush 108, 0, 0, 0), (27, .if_icmp .eq 9, 0, 0, 0), (30, .iload_n 0, 0, 0, 0), (31, .bipush 115, 0, 0, 0), (33, .if_icmp .ne 7, 0, 0, 0)] : List zz_i)),
  (36, 40, ([(36, .iconst 1, 0, 0, 0), (37, .goto 4, 0, 0, 0)] : List zz_i)),
  (40, 41, ([(40, .iconst 0, 0, 0, 0)] : List zz_i)),
  (41, 42, ([(41, .ireturn, 0, 0, 0)] : List zz_i))])
/-- 102: X8_isDigit isDigit(I)Z  -/
def zm_102 : zz_MI := (⟨"OneStageTwoPlays$RuleReader", "isDigit", "(I)Z"⟩, prog_10_method_6_code, 1, (some .boolean), [(0, 16, ([(0, .iload_n 0, 0, 0, 0), (1, .bipush 48, 0, 0, 0), (3, .if_icmp .lt 13, 0, 0, 0), (6, .iload_n 0, 0, 0, 0), (7, .bipush 57, 0, 0, 0), (9, .if_icmp .gt 7, 0, 0, 0), (12, .iconst 1, 0, 0, 0), (13, .goto 4, 0, 0, 0)] : List zz_i)),
  (16, 17, ([(16, .iconst 0, 0, 0, 0)] : List zz_i)),
  (17, 18, ([(17, .ireturn, 0, 0, 0)] : List zz_i))])
/-- 103: X8_rankOf rankOf(I)I  -/
def zm_103 : zz_MI := (⟨"OneStageTwoPlays$RuleReader", "rankOf", "(I)I"⟩, prog_10_method_7_code, 1, (some .int), [(0, 76, ([(0, .iload_n 0, 0, 0, 0), (1, .lookupswitch 83 #[(42, 79), (43, 77), (45, 77), (47, 79), (60, 75), (61, 75), (62, 75), (256, 81)], 0, 0, 75)] : List zz_i)),
  (76, 78, ([(76, .iconst 1, 0, 0, 0), (77, .ireturn, 0, 0, 0)] : List zz_i)),
  (78, 80, ([(78, .iconst 2, 0, 0, 0), (79, .ireturn, 0, 0, 0)] : List zz_i)),
  (80, 82, ([(80, .iconst 3, 0, 0, 0), (81, .ireturn, 0, 0, 0)] : List zz_i)),
  (82, 84, ([(82, .iconst 4, 0, 0, 0), (83, .ireturn, 0, 0, 0)] : List zz_i)),
  (84, 86, ([(84, .iconst 0, 0, 0, 0), (85, .ireturn, 0, 0, 0)] : List zz_i))])
/-- 104: X8_takesAhead takesAhead(I)Z  -/
def zm_104 : zz_MI := (⟨"OneStageTwoPlays$RuleReader", "takesAhead", "(I)Z"⟩, prog_10_method_8_code, 2, (some .boolean), [(0, 15, ([(0, .iload_n 1, 0, 0, 0), (1, .bipush 45, 0, 0, 0), (3, .if_icmp .ne 12, 0, 0, 0), (6, .aload_n 0, 0, 0, 0), (7, .sipush 256, 0, 0, 0), (10, .invokevirtual 49, 109, 2, 7), (13, .iconst 1, 0, 0, 0), (14, .ireturn, 0, 0, 0)] : List zz_i)),
  (15, 26, ([(15, .iload_n 1, 0, 0, 0), (16, .bipush 40, 0, 0, 0), (18, .if_icmp .ne 8, 0, 0, 0), (21, .aload_n 0, 0, 0, 0), (22, .invokevirtual 52, 106, 1, 7), (25, .ireturn, 0, 0, 0)] : List zz_i)),
  (26, 49, ([(26, .iload_n 1, 0, 0, 0), (27, .invokestatic 56, 102, 1, 0), (30, .ifCond .eq 19, 0, 0, 0), (33, .aload_n 0, 0, 0, 0), (34, .iload_n 1, 0, 0, 0), (35, .bipush 48, 0, 0, 0), (37, .isub, 0, 0, 0), (38, .invokevirtual 59, 111, 2, 7), (41, .aload_n 0, 0, 0, 0), (42, .iconst 1, 0, 0, 0), (43, .putfield 31, 7, 6, 0), (46, .goto 26, 0, 0, 0)] : List zz_i)),
  (49, 70, ([(49, .iload_n 1, 0, 0, 0), (50, .invokestatic 62, 101, 1, 0), (53, .ifCond .eq 17, 0, 0, 0), (56, .aload_n 0, 0, 0, 0), (57, .iload_n 1, 0, 0, 0), (58, .ineg, 0, 0, 0), (59, .invokevirtual 59, 111, 2, 7), (62, .aload_n 0, 0, 0, 0), (63, .iconst 0, 0, 0, 0), (64, .putfield 31, 7, 6, 0), (67, .goto 5, 0, 0, 0)] : List zz_i)),
  (70, 72, ([(70, .iconst 0, 0, 0, 0), (71, .ireturn, 0, 0, 0)] : List zz_i)),
  (72, 79, ([(72, .aload_n 0, 0, 0, 0), (73, .iconst 0, 0, 0, 0), (74, .putfield 34, 7, 7, 0), (77, .iconst 1, 0, 0, 0), (78, .ireturn, 0, 0, 0)] : List zz_i))])
/-- 105: X8_takesBehind takesBehind(I)Z  -/
def zm_105 : zz_MI := (⟨"OneStageTwoPlays$RuleReader", "takesBehind", "(I)Z"⟩, prog_10_method_9_code, 3, (some .boolean), [(0, 16, ([(0, .iload_n 1, 0, 0, 0), (1, .invokestatic 56, 102, 1, 0), (4, .ifCond .eq 12, 0, 0, 0), (7, .aload_n 0, 0, 0, 0), (8, .iload_n 1, 0, 0, 0), (9, .bipush 48, 0, 0, 0), (11, .isub, 0, 0, 0), (12, .invokevirtual 65, 108, 2, 7), (15, .ireturn, 0, 0, 0)] : List zz_i)),
  (16, 27, ([(16, .iload_n 1, 0, 0, 0), (17, .bipush 41, 0, 0, 0), (19, .if_icmp .ne 8, 0, 0, 0), (22, .aload_n 0, 0, 0, 0), (23, .invokevirtual 68, 107, 1, 7), (26, .ireturn, 0, 0, 0)] : List zz_i)),
  (27, 38, ([(27, .iload_n 1, 0, 0, 0), (28, .sipush 256, 0, 0, 0), (31, .if_icmp .ne 7, 0, 0, 0), (34, .iconst 0, 0, 0, 0), (35, .goto 7, 0, 0, 0)] : List zz_i)),
  (38, 42, ([(38, .iload_n 1, 0, 0, 0), (39, .invokestatic 71, 103, 1, 0)] : List zz_i)),
  (42, 67, ([(42, .istore_n 2, 0, 0, 0), (43, .iload_n 2, 0, 0, 0), (44, .ifCond .eq 23, 0, 0, 0), (47, .iload_n 2, 0, 0, 0), (48, .iconst 1, 0, 0, 0), (49, .if_icmp .ne 20, 0, 0, 0), (52, .aload_n 0, 0, 0, 0), (53, .getfield 28, 7, 5, 0), (56, .aload_n 0, 0, 0, 0), (57, .getfield 25, 7, 4, 0), (60, .ishr, 0, 0, 0), (61, .iconst 1, 0, 0, 0), (62, .iand, 0, 0, 0), (63, .iconst 1, 0, 0, 0), (64, .if_icmp .ne 5, 0, 0, 0)] : List zz_i)),
  (67, 69, ([(67, .iconst 0, 0, 0, 0), (68, .ireturn, 0, 0, 0)] : List zz_i)),
  (69, 89, ([(69, .iload_n 2, 0, 0, 0), (70, .iconst 1, 0, 0, 0), (71, .if_icmp .ne 18, 0, 0, 0), (74, .aload_n 0, 0, 0, 0), (75, .dup, 0, 0, 0), (76, .getfield 28, 7, 5, 0), (79, .iconst 1, 0, 0, 0), (80, .aload_n 0, 0, 0, 0), (81, .getfield 25, 7, 4, 0), (84, .ishl, 0, 0, 0), (85, .ior, 0, 0, 0), (86, .putfield 28, 7, 5, 0)] : List zz_i)),
  (89, 106, ([(89, .aload_n 0, 0, 0, 0), (90, .iload_n 2, 0, 0, 0), (91, .invokevirtual 38, 110, 2, 7), (94, .aload_n 0, 0, 0, 0), (95, .iload_n 1, 0, 0, 0), (96, .invokevirtual 49, 109, 2, 7), (99, .aload_n 0, 0, 0, 0), (100, .iconst 1, 0, 0, 0), (101, .putfield 34, 7, 7, 0), (104, .iconst 1, 0, 0, 0), (105, .ireturn, 0, 0, 0)] : List zz_i))])
/-- 106: X8_opens opens()Z  -/
def zm_106 : zz_MI := (⟨"OneStageTwoPlays$RuleReader", "opens", "()Z"⟩, prog_10_method_10_code, 1, (some .boolean), [(0, 10, ([(0, .aload_n 0, 0, 0, 0), (1, .getfield 25, 7, 4, 0), (4, .iconst 4, 0, 0, 0), (5, .if_icmp .lt 5, 0, 0, 0), (8, .iconst 0, 0, 0, 0), (9, .ireturn, 0, 0, 0)] : List zz_i)),
  (10, 45, ([(10, .aload_n 0, 0, 0, 0), (11, .dup, 0, 0, 0), (12, .getfield 25, 7, 4, 0), (15, .iconst 1, 0, 0, 0), (16, .iadd, 0, 0, 0), (17, .putfield 25, 7, 4, 0), (20, .aload_n 0, 0, 0, 0), (21, .dup, 0, 0, 0), (22, .getfield 28, 7, 5, 0), (25, .iconst 1, 0, 0, 0), (26, .aload_n 0, 0, 0, 0), (27, .getfield 25, 7, 4, 0), (30, .ishl, 0, 0, 0), (31, .iconst (-1), 0, 0, 0), (32, .ixor, 0, 0, 0), (33, .iand, 0, 0, 0), (34, .putfield 28, 7, 5, 0), (37, .aload_n 0, 0, 0, 0), (38, .bipush 40, 0, 0, 0), (40, .invokevirtual 49, 109, 2, 7), (43, .iconst 1, 0, 0, 0), (44, .ireturn, 0, 0, 0)] : List zz_i))])
/-- 107: X8_closes closes()Z  -/
def zm_107 : zz_MI := (⟨"OneStageTwoPlays$RuleReader", "closes", "()Z"⟩, prog_10_method_11_code, 1, (some .boolean), [(0, 9, ([(0, .aload_n 0, 0, 0, 0), (1, .getfield 25, 7, 4, 0), (4, .ifCond .gt 5, 0, 0, 0), (7, .iconst 0, 0, 0, 0), (8, .ireturn, 0, 0, 0)] : List zz_i)),
  (9, 45, ([(9, .aload_n 0, 0, 0, 0), (10, .dup, 0, 0, 0), (11, .getfield 25, 7, 4, 0), (14, .iconst 1, 0, 0, 0), (15, .isub, 0, 0, 0), (16, .putfield 25, 7, 4, 0), (19, .aload_n 0, 0, 0, 0), (20, .iconst 0, 0, 0, 0), (21, .putfield 31, 7, 6, 0), (24, .aload_n 0, 0, 0, 0), (25, .iconst 1, 0, 0, 0), (26, .invokevirtual 38, 110, 2, 7), (29, .aload_n 0, 0, 0, 0), (30, .iconst 0, 0, 0, 0), (31, .aload_n 0, 0, 0, 0), (32, .getfield 22, 7, 3, 0), (35, .iconst 1, 0, 0, 0), (36, .isub, 0, 0, 0), (37, .invokestatic 75, 309, 2, 0), (40, .putfield 22, 7, 3, 0), (43, .iconst 1, 0, 0, 0), (44, .ireturn, 0, 0, 0)] : List zz_i))])
/-- 108: X8_lengthens lengthens(I)Z  -/
def zm_108 : zz_MI := (⟨"OneStageTwoPlays$RuleReader", "lengthens", "(I)Z"⟩, prog_10_method_12_code, 3, (some .boolean), [(0, 36, ([(0, .aload_n 0, 0, 0, 0), (1, .getfield 18, 7, 2, 0), (4, .iconst 1, 0, 0, 0), (5, .isub, 0, 0, 0), (6, .istore_n 2, 0, 0, 0), (7, .aload_n 0, 0, 0, 0), (8, .getfield 31, 7, 6, 0), (11, .iconst 1, 0, 0, 0), (12, .if_icmp .lt 24, 0, 0, 0), (15, .aload_n 0, 0, 0, 0), (16, .getfield 31, 7, 6, 0), (19, .iconst 3, 0, 0, 0), (20, .if_icmp .ge 16, 0, 0, 0), (23, .iload_n 2, 0, 0, 0), (24, .ifCond .lt 12, 0, 0, 0), (27, .iload_n 2, 0, 0, 0), (28, .aload_n 0, 0, 0, 0), (29, .getfield 9, 7, 0, 0), (32, .arraylength, 0, 0, 0), (33, .if_icmp .lt 5, 0, 0, 0)] : List zz_i)),
  (36, 38, ([(36, .iconst 0, 0, 0, 0), (37, .ireturn, 0, 0, 0)] : List zz_i)),
  (38, 67, ([(38, .aload_n 0, 0, 0, 0), (39, .getfield 9, 7, 0, 0), (42, .iload_n 2, 0, 0, 0), (43, .aload_n 0, 0, 0, 0), (44, .getfield 9, 7, 0, 0), (47, .iload_n 2, 0, 0, 0), (48, .iaload, 0, 0, 0), (49, .bipush 10, 0, 0, 0), (51, .imul, 0, 0, 0), (52, .iload_n 1, 0, 0, 0), (53, .iadd, 0, 0, 0), (54, .iastore, 0, 0, 0), (55, .aload_n 0, 0, 0, 0), (56, .dup, 0, 0, 0), (57, .getfield 31, 7, 6, 0), (60, .iconst 1, 0, 0, 0), (61, .iadd, 0, 0, 0), (62, .putfield 31, 7, 6, 0), (65, .iconst 1, 0, 0, 0), (66, .ireturn, 0, 0, 0)] : List zz_i))])
/-- 109: X8_hold hold(I)V  -/
def zm_109 : zz_MI := (⟨"OneStageTwoPlays$RuleReader", "hold", "(I)V"⟩, prog_10_method_13_code, 2, none, [(0, 39, ([(0, .aload_n 0, 0, 0, 0), (1, .getfield 22, 7, 3, 0), (4, .ifCond .lt 35, 0, 0, 0), (7, .aload_n 0, 0, 0, 0), (8, .getfield 22, 7, 3, 0), (11, .aload_n 0, 0, 0, 0), (12, .getfield 15, 7, 1, 0), (15, .arraylength, 0, 0, 0), (16, .if_icmp .ge 23, 0, 0, 0), (19, .aload_n 0, 0, 0, 0), (20, .getfield 15, 7, 1, 0), (23, .aload_n 0, 0, 0, 0), (24, .getfield 22, 7, 3, 0), (27, .iload_n 1, 0, 0, 0), (28, .iastore, 0, 0, 0), (29, .aload_n 0, 0, 0, 0), (30, .dup, 0, 0, 0), (31, .getfield 22, 7, 3, 0), (34, .iconst 1, 0, 0, 0), (35, .iadd, 0, 0, 0), (36, .putfield 22, 7, 3, 0)] : List zz_i)),
  (39, 40, ([(39, .return_, 0, 0, 0)] : List zz_i))])
/-- 110: X8_release release(I)V  -/
def zm_110 : zz_MI := (⟨"OneStageTwoPlays$RuleReader", "release", "(I)V"⟩, prog_10_method_14_code, 3, none, [(0, 15, ([(0, .aload_n 0, 0, 0, 0), (1, .getfield 22, 7, 3, 0), (4, .aload_n 0, 0, 0, 0), (5, .getfield 15, 7, 1, 0), (8, .arraylength, 0, 0, 0), (9, .invokestatic 81, 310, 2, 0), (12, .iconst 1, 0, 0, 0), (13, .isub, 0, 0, 0), (14, .istore_n 2, 0, 0, 0)] : List zz_i)),
  (15, 43, ([(15, .iload_n 2, 0, 0, 0), (16, .ifCond .lt 50, 0, 0, 0), (19, .aload_n 0, 0, 0, 0), (20, .getfield 15, 7, 1, 0), (23, .iload_n 2, 0, 0, 0), (24, .iaload, 0, 0, 0), (25, .bipush 40, 0, 0, 0), (27, .if_icmp .eq 16, 0, 0, 0), (30, .aload_n 0, 0, 0, 0), (31, .getfield 15, 7, 1, 0), (34, .iload_n 2, 0, 0, 0), (35, .iaload, 0, 0, 0), (36, .invokestatic 71, 103, 1, 0), (39, .iload_n 1, 0, 0, 0), (40, .if_icmp .ge 4, 0, 0, 0)] : List zz_i)),
  (43, 44, ([(43, .return_, 0, 0, 0)] : List zz_i)),
  (44, 66, ([(44, .aload_n 0, 0, 0, 0), (45, .aload_n 0, 0, 0, 0), (46, .getfield 15, 7, 1, 0), (49, .iload_n 2, 0, 0, 0), (50, .iaload, 0, 0, 0), (51, .ineg, 0, 0, 0), (52, .invokevirtual 59, 111, 2, 7), (55, .aload_n 0, 0, 0, 0), (56, .iload_n 2, 0, 0, 0), (57, .putfield 22, 7, 3, 0), (60, .iinc 2 (-1), 0, 0, 0), (63, .goto (-48), 0, 0, 0)] : List zz_i)),
  (66, 67, ([(66, .return_, 0, 0, 0)] : List zz_i))])
/-- 111: X8_emit emit(I)V  -/
def zm_111 : zz_MI := (⟨"OneStageTwoPlays$RuleReader", "emit", "(I)V"⟩, prog_10_method_15_code, 2, none, [(0, 39, ([(0, .aload_n 0, 0, 0, 0), (1, .getfield 18, 7, 2, 0), (4, .ifCond .lt 35, 0, 0, 0), (7, .aload_n 0, 0, 0, 0), (8, .getfield 18, 7, 2, 0), (11, .aload_n 0, 0, 0, 0), (12, .getfield 9, 7, 0, 0), (15, .arraylength, 0, 0, 0), (16, .if_icmp .ge 23, 0, 0, 0), (19, .aload_n 0, 0, 0, 0), (20, .getfield 9, 7, 0, 0), (23, .aload_n 0, 0, 0, 0), (24, .getfield 18, 7, 2, 0), (27, .iload_n 1, 0, 0, 0), (28, .iastore, 0, 0, 0), (29, .aload_n 0, 0, 0, 0), (30, .dup, 0, 0, 0), (31, .getfield 18, 7, 2, 0), (34, .iconst 1, 0, 0, 0), (35, .iadd, 0, 0, 0), (36, .putfield 18, 7, 2, 0)] : List zz_i)),
  (39, 40, ([(39, .return_, 0, 0, 0)] : List zz_i))])
/-- 112: X9_init <init>()V  -/
def zm_112 : zz_MI := (⟨"OneStageTwoPlays$Script", "<init>", "()V"⟩, prog_11_method_1_code, 1, none, [(0, 20, ([(0, .aload_n 0, 0, 0, 0), (1, .invokespecial 3, 999, 1, 0), (4, .aload_n 0, 0, 0, 0), (5, .bipush 84, 0, 0, 0), (7, .newarray .int, 0, 0, 0), (9, .putfield 9, 8, 0, 0), (12, .aload_n 0, 0, 0, 0), (13, .iconst 2, 0, 0, 0), (14, .newarray .int, 0, 0, 0), (16, .putfield 15, 8, 1, 0), (19, .return_, 0, 0, 0)] : List zz_i))])
/-- 113: X9_has has(I)Z  -/
def zm_113 : zz_MI := (⟨"OneStageTwoPlays$Script", "has", "(I)Z"⟩, prog_11_method_2_code, 2, (some .boolean), [(0, 16, ([(0, .iload_n 1, 0, 0, 0), (1, .ifCond .lt 15, 0, 0, 0), (4, .iload_n 1, 0, 0, 0), (5, .aload_n 0, 0, 0, 0), (6, .getfield 18, 8, 2, 0), (9, .if_icmp .ge 7, 0, 0, 0), (12, .iconst 1, 0, 0, 0), (13, .goto 4, 0, 0, 0)] : List zz_i)),
  (16, 17, ([(16, .iconst 0, 0, 0, 0)] : List zz_i)),
  (17, 18, ([(17, .ireturn, 0, 0, 0)] : List zz_i))])
/-- 114: X9_of of(II)I  -/
def zm_114 : zz_MI := (⟨"OneStageTwoPlays$Script", "of", "(II)I"⟩, prog_11_method_3_code, 4, (some .int), [(0, 29, ([(0, .iload_n 1, 0, 0, 0), (1, .bipush 7, 0, 0, 0), (3, .imul, 0, 0, 0), (4, .iload_n 2, 0, 0, 0), (5, .iadd, 0, 0, 0), (6, .istore_n 3, 0, 0, 0), (7, .iload_n 3, 0, 0, 0), (8, .ifCond .lt 21, 0, 0, 0), (11, .iload_n 3, 0, 0, 0), (12, .aload_n 0, 0, 0, 0), (13, .getfield 9, 8, 0, 0), (16, .arraylength, 0, 0, 0), (17, .if_icmp .ge 12, 0, 0, 0), (20, .aload_n 0, 0, 0, 0), (21, .getfield 9, 8, 0, 0), (24, .iload_n 3, 0, 0, 0), (25, .iaload, 0, 0, 0), (26, .goto 4, 0, 0, 0)] : List zz_i)),
  (29, 30, ([(29, .iconst 0, 0, 0, 0)] : List zz_i)),
  (30, 31, ([(30, .ireturn, 0, 0, 0)] : List zz_i))])
/-- 115: X9_put put(III)V  -/
def zm_115 : zz_MI := (⟨"OneStageTwoPlays$Script", "put", "(III)V"⟩, prog_11_method_4_code, 5, none, [(0, 31, ([(0, .iload_n 1, 0, 0, 0), (1, .bipush 7, 0, 0, 0), (3, .imul, 0, 0, 0), (4, .iload_n 2, 0, 0, 0), (5, .iadd, 0, 0, 0), (6, .istore 4, 0, 0, 0), (8, .iload 4, 0, 0, 0), (10, .ifCond .lt 21, 0, 0, 0), (13, .iload 4, 0, 0, 0), (15, .aload_n 0, 0, 0, 0), (16, .getfield 9, 8, 0, 0), (19, .arraylength, 0, 0, 0), (20, .if_icmp .ge 11, 0, 0, 0), (23, .aload_n 0, 0, 0, 0), (24, .getfield 9, 8, 0, 0), (27, .iload 4, 0, 0, 0), (29, .iload_n 3, 0, 0, 0), (30, .iastore, 0, 0, 0)] : List zz_i)),
  (31, 32, ([(31, .return_, 0, 0, 0)] : List zz_i))])
/-- 116: X9_grow grow(I)I  -/
def zm_116 : zz_MI := (⟨"OneStageTwoPlays$Script", "grow", "(I)I"⟩, prog_11_method_5_code, 6, (some .int), [(0, 4, ([(0, .iconst 0, 0, 0, 0), (1, .istore_n 2, 0, 0, 0), (2, .iconst 0, 0, 0, 0), (3, .istore_n 3, 0, 0, 0)] : List zz_i)),
  (4, 48, ([(4, .iload_n 3, 0, 0, 0), (5, .iload_n 1, 0, 0, 0), (6, .if_icmp .ge 73, 0, 0, 0), (9, .aload_n 0, 0, 0, 0), (10, .getfield 18, 8, 2, 0), (13, .bipush 12, 0, 0, 0), (15, .if_icmp .ge 64, 0, 0, 0), (18, .iconst 1, 0, 0, 0), (19, .aload_n 0, 0, 0, 0), (20, .getfield 18, 8, 2, 0), (23, .ishl, 0, 0, 0), (24, .istore 4, 0, 0, 0), (26, .iload_n 2, 0, 0, 0), (27, .iload 4, 0, 0, 0), (29, .ior, 0, 0, 0), (30, .istore_n 2, 0, 0, 0), (31, .aload_n 0, 0, 0, 0), (32, .aload_n 0, 0, 0, 0), (33, .getfield 18, 8, 2, 0), (36, .iconst 0, 0, 0, 0), (37, .invokevirtual 22, 114, 3, 8), (40, .iconst 1, 0, 0, 0), (41, .if_icmp .ne 7, 0, 0, 0), (44, .iconst 1, 0, 0, 0), (45, .goto 4, 0, 0, 0)] : List zz_i)),
  (48, 49, ([(48, .iconst 0, 0, 0, 0)] : List zz_i)),
  (49, 79, ([(49, .istore 5, 0, 0, 0), (51, .aload_n 0, 0, 0, 0), (52, .getfield 15, 8, 1, 0), (55, .iload 5, 0, 0, 0), (57, .dup2, 0, 0, 0), (58, .iaload, 0, 0, 0), (59, .iload 4, 0, 0, 0), (61, .ior, 0, 0, 0), (62, .iastore, 0, 0, 0), (63, .aload_n 0, 0, 0, 0), (64, .dup, 0, 0, 0), (65, .getfield 18, 8, 2, 0), (68, .iconst 1, 0, 0, 0), (69, .iadd, 0, 0, 0), (70, .putfield 18, 8, 2, 0), (73, .iinc 3 1, 0, 0, 0), (76, .goto (-72), 0, 0, 0)] : List zz_i)),
  (79, 81, ([(79, .iload_n 2, 0, 0, 0), (80, .ireturn, 0, 0, 0)] : List zz_i))])
/-- 117: X9_scenesOf scenesOf(I)I  -/
def zm_117 : zz_MI := (⟨"OneStageTwoPlays$Script", "scenesOf", "(I)I"⟩, prog_11_method_6_code, 2, (some .int), [(0, 9, ([(0, .iload_n 1, 0, 0, 0), (1, .ifCond .eq 8, 0, 0, 0), (4, .iload_n 1, 0, 0, 0), (5, .iconst 1, 0, 0, 0), (6, .if_icmp .ne 12, 0, 0, 0)] : List zz_i)),
  (9, 18, ([(9, .aload_n 0, 0, 0, 0), (10, .getfield 15, 8, 1, 0), (13, .iload_n 1, 0, 0, 0), (14, .iaload, 0, 0, 0), (15, .goto 4, 0, 0, 0)] : List zz_i)),
  (18, 19, ([(18, .iconst 0, 0, 0, 0)] : List zz_i)),
  (19, 20, ([(19, .ireturn, 0, 0, 0)] : List zz_i))])
/-- 118: X9_sumOf sumOf(II)I  -/
def zm_118 : zz_MI := (⟨"OneStageTwoPlays$Script", "sumOf", "(II)I"⟩, prog_11_method_7_code, 5, (some .int), [(0, 5, ([(0, .iconst 0, 0, 0, 0), (1, .istore_n 3, 0, 0, 0), (2, .iconst 0, 0, 0, 0), (3, .istore 4, 0, 0, 0)] : List zz_i)),
  (5, 34, ([(5, .iload 4, 0, 0, 0), (7, .aload_n 0, 0, 0, 0), (8, .getfield 18, 8, 2, 0), (11, .if_icmp .ge 29, 0, 0, 0), (14, .iload_n 1, 0, 0, 0), (15, .iload 4, 0, 0, 0), (17, .ishr, 0, 0, 0), (18, .iconst 1, 0, 0, 0), (19, .iand, 0, 0, 0), (20, .iconst 1, 0, 0, 0), (21, .if_icmp .ne 13, 0, 0, 0), (24, .iload_n 3, 0, 0, 0), (25, .aload_n 0, 0, 0, 0), (26, .iload 4, 0, 0, 0), (28, .iload_n 2, 0, 0, 0), (29, .invokevirtual 22, 114, 3, 8), (32, .iadd, 0, 0, 0), (33, .istore_n 3, 0, 0, 0)] : List zz_i)),
  (34, 40, ([(34, .iinc 4 1, 0, 0, 0), (37, .goto (-32), 0, 0, 0)] : List zz_i)),
  (40, 42, ([(40, .iload_n 3, 0, 0, 0), (41, .ireturn, 0, 0, 0)] : List zz_i))])
/-- 119: X9_unionOf unionOf(II)I  -/
def zm_119 : zz_MI := (⟨"OneStageTwoPlays$Script", "unionOf", "(II)I"⟩, prog_11_method_8_code, 5, (some .int), [(0, 5, ([(0, .iconst 0, 0, 0, 0), (1, .istore_n 3, 0, 0, 0), (2, .iconst 0, 0, 0, 0), (3, .istore 4, 0, 0, 0)] : List zz_i)),
  (5, 34, ([(5, .iload 4, 0, 0, 0), (7, .aload_n 0, 0, 0, 0), (8, .getfield 18, 8, 2, 0), (11, .if_icmp .ge 29, 0, 0, 0), (14, .iload_n 1, 0, 0, 0), (15, .iload 4, 0, 0, 0), (17, .ishr, 0, 0, 0), (18, .iconst 1, 0, 0, 0), (19, .iand, 0, 0, 0), (20, .iconst 1, 0, 0, 0), (21, .if_icmp .ne 13, 0, 0, 0), (24, .iload_n 3, 0, 0, 0), (25, .aload_n 0, 0, 0, 0), (26, .iload 4, 0, 0, 0), (28, .iload_n 2, 0, 0, 0), (29, .invokevirtual 22, 114, 3, 8), (32, .ior, 0, 0, 0), (33, .istore_n 3, 0, 0, 0)] : List zz_i)),
  (34, 40, ([(34, .iinc 4 1, 0, 0, 0), (37, .goto (-32), 0, 0, 0)] : List zz_i)),
  (40, 42, ([(40, .iload_n 3, 0, 0, 0), (41, .ireturn, 0, 0, 0)] : List zz_i))])
/-- 120: X9_follows follows(II)Z  -/
def zm_120 : zz_MI := (⟨"OneStageTwoPlays$Script", "follows", "(II)Z"⟩, prog_11_method_9_code, 4, (some .boolean), [(0, 20, ([(0, .aload_n 0, 0, 0, 0), (1, .iload_n 1, 0, 0, 0), (2, .iconst 5, 0, 0, 0), (3, .invokevirtual 22, 114, 3, 8), (6, .istore_n 3, 0, 0, 0), (7, .iload_n 3, 0, 0, 0), (8, .ifCond .lt 12, 0, 0, 0), (11, .iload_n 2, 0, 0, 0), (12, .iload_n 3, 0, 0, 0), (13, .ishr, 0, 0, 0), (14, .iconst 1, 0, 0, 0), (15, .iand, 0, 0, 0), (16, .iconst 1, 0, 0, 0), (17, .if_icmp .ne 7, 0, 0, 0)] : List zz_i)),
  (20, 24, ([(20, .iconst 1, 0, 0, 0), (21, .goto 4, 0, 0, 0)] : List zz_i)),
  (24, 25, ([(24, .iconst 0, 0, 0, 0)] : List zz_i)),
  (25, 26, ([(25, .ireturn, 0, 0, 0)] : List zz_i))])
/-- 121: X9_cheerWith cheerWith(II)I  -/
def zm_121 : zz_MI := (⟨"OneStageTwoPlays$Script", "cheerWith", "(II)I"⟩, prog_11_method_10_code, 4, (some .int), [(0, 21, ([(0, .aload_n 0, 0, 0, 0), (1, .iload_n 1, 0, 0, 0), (2, .bipush 6, 0, 0, 0), (4, .invokevirtual 22, 114, 3, 8), (7, .istore_n 3, 0, 0, 0), (8, .aload_n 0, 0, 0, 0), (9, .iload_n 1, 0, 0, 0), (10, .iload_n 2, 0, 0, 0), (11, .invokevirtual 26, 120, 3, 8), (14, .ifCond .eq 7, 0, 0, 0), (17, .iload_n 3, 0, 0, 0), (18, .goto 6, 0, 0, 0)] : List zz_i)),
  (21, 24, ([(21, .iload_n 3, 0, 0, 0), (22, .iconst 2, 0, 0, 0), (23, .idiv, 0, 0, 0)] : List zz_i)),
  (24, 25, ([(24, .ireturn, 0, 0, 0)] : List zz_i))])
/-- 122: X9_factOf factOf(I)I  -/
def zm_122 : zz_MI := (⟨"OneStageTwoPlays$Script", "factOf", "(I)I"⟩, prog_11_method_11_code, 3, (some .int), [(0, 15, ([(0, .aload_n 0, 0, 0, 0), (1, .iload_n 1, 0, 0, 0), (2, .iconst 4, 0, 0, 0), (3, .invokevirtual 22, 114, 3, 8), (6, .istore_n 2, 0, 0, 0), (7, .iload_n 2, 0, 0, 0), (8, .ifCond .ge 7, 0, 0, 0), (11, .iconst 0, 0, 0, 0), (12, .goto 6, 0, 0, 0)] : List zz_i)),
  (15, 18, ([(15, .iconst 1, 0, 0, 0), (16, .iload_n 2, 0, 0, 0), (17, .ishl, 0, 0, 0)] : List zz_i)),
  (18, 19, ([(18, .ireturn, 0, 0, 0)] : List zz_i))])
/-- 123: X10_init <init>(LOneStageTwoPlays$Script;LOneStageTwoPlays$Night;)V  -/
def zm_123 : zz_MI := (⟨"OneStageTwoPlays$Story", "<init>", "(LOneStageTwoPlays$Script;LOneStageTwoPlays$Night;)V"⟩, prog_12_method_1_code, 3, none, [(0, 30, ([(0, .aload_n 0, 0, 0, 0), (1, .invokespecial 3, 999, 1, 0), (4, .aload_n 0, 0, 0, 0), (5, .bipush 12, 0, 0, 0), (7, .newarray .int, 0, 0, 0), (9, .putfield 9, 9, 2, 0), (12, .aload_n 0, 0, 0, 0), (13, .iconst 0, 0, 0, 0), (14, .newarray .int, 0, 0, 0), (16, .putfield 15, 9, 3, 0), (19, .aload_n 0, 0, 0, 0), (20, .aload_n 1, 0, 0, 0), (21, .putfield 18, 9, 0, 0), (24, .aload_n 0, 0, 0, 0), (25, .aload_n 2, 0, 0, 0), (26, .putfield 22, 9, 1, 0), (29, .return_, 0, 0, 0)] : List zz_i))])
/-- 124: X10_clashing clashing(I)I  -/
def zm_124 : zz_MI := (⟨"OneStageTwoPlays$Story", "clashing", "(I)I"⟩, prog_12_method_2_code, 7, (some .int), [(0, 24, ([(0, .aload_n 0, 0, 0, 0), (1, .getfield 22, 9, 1, 0), (4, .iconst 0, 0, 0, 0), (5, .invokevirtual 26, 79, 2, 5), (8, .istore_n 2, 0, 0, 0), (9, .aload_n 0, 0, 0, 0), (10, .getfield 22, 9, 1, 0), (13, .iconst 1, 0, 0, 0), (14, .invokevirtual 26, 79, 2, 5), (17, .istore_n 3, 0, 0, 0), (18, .iconst 0, 0, 0, 0), (19, .istore 4, 0, 0, 0), (21, .iconst 0, 0, 0, 0), (22, .istore 5, 0, 0, 0)] : List zz_i)),
  (24, 48, ([(24, .iload 5, 0, 0, 0), (26, .aload_n 0, 0, 0, 0), (27, .getfield 18, 9, 0, 0), (30, .getfield 32, 8, 2, 1), (33, .if_icmp .ge 104, 0, 0, 0), (36, .iload_n 1, 0, 0, 0), (37, .iload 5, 0, 0, 0), (39, .ishr, 0, 0, 0), (40, .iconst 1, 0, 0, 0), (41, .iand, 0, 0, 0), (42, .ifCond .ne 6, 0, 0, 0), (45, .goto 86, 0, 0, 0)] : List zz_i)),
  (48, 65, ([(48, .aload_n 0, 0, 0, 0), (49, .getfield 18, 9, 0, 0), (52, .iload 5, 0, 0, 0), (54, .iconst 0, 0, 0, 0), (55, .invokevirtual 38, 114, 3, 8), (58, .ifCond .ne 7, 0, 0, 0), (61, .iconst 1, 0, 0, 0), (62, .goto 4, 0, 0, 0)] : List zz_i)),
  (65, 66, ([(65, .iconst 0, 0, 0, 0)] : List zz_i)),
  (66, 83, ([(66, .istore 6, 0, 0, 0), (68, .aload_n 0, 0, 0, 0), (69, .getfield 18, 9, 0, 0), (72, .iload 5, 0, 0, 0), (74, .iload 6, 0, 0, 0), (76, .ifCond .eq 7, 0, 0, 0), (79, .iload_n 2, 0, 0, 0), (80, .goto 4, 0, 0, 0)] : List zz_i)),
  (83, 84, ([(83, .iload_n 3, 0, 0, 0)] : List zz_i)),
  (84, 99, ([(84, .invokevirtual 42, 120, 3, 8), (87, .ifCond .ne 12, 0, 0, 0), (90, .iload 4, 0, 0, 0), (92, .iconst 1, 0, 0, 0), (93, .iload 5, 0, 0, 0), (95, .ishl, 0, 0, 0), (96, .ior, 0, 0, 0), (97, .istore 4, 0, 0, 0)] : List zz_i)),
  (99, 119, ([(99, .iload 6, 0, 0, 0), (101, .ifCond .eq 18, 0, 0, 0), (104, .iload_n 2, 0, 0, 0), (105, .aload_n 0, 0, 0, 0), (106, .getfield 18, 9, 0, 0), (109, .iload 5, 0, 0, 0), (111, .invokevirtual 46, 122, 2, 8), (114, .ior, 0, 0, 0), (115, .istore_n 2, 0, 0, 0), (116, .goto 15, 0, 0, 0)] : List zz_i)),
  (119, 131, ([(119, .iload_n 3, 0, 0, 0), (120, .aload_n 0, 0, 0, 0), (121, .getfield 18, 9, 0, 0), (124, .iload 5, 0, 0, 0), (126, .invokevirtual 46, 122, 2, 8), (129, .ior, 0, 0, 0), (130, .istore_n 3, 0, 0, 0)] : List zz_i)),
  (131, 137, ([(131, .iinc 5 1, 0, 0, 0), (134, .goto (-110), 0, 0, 0)] : List zz_i)),
  (137, 140, ([(137, .iload 4, 0, 0, 0), (139, .ireturn, 0, 0, 0)] : List zz_i))])
/-- 125: X10_lostIn lostIn(I)I  -/
def zm_125 : zz_MI := (⟨"OneStageTwoPlays$Story", "lostIn", "(I)I"⟩, prog_12_method_3_code, 5, (some .int), [(0, 4, ([(0, .iconst 0, 0, 0, 0), (1, .istore_n 2, 0, 0, 0), (2, .iconst 0, 0, 0, 0), (3, .istore_n 3, 0, 0, 0)] : List zz_i)),
  (4, 46, ([(4, .iload_n 3, 0, 0, 0), (5, .aload_n 0, 0, 0, 0), (6, .getfield 18, 9, 0, 0), (9, .getfield 32, 8, 2, 1), (12, .if_icmp .ge 40, 0, 0, 0), (15, .iload_n 1, 0, 0, 0), (16, .iload_n 3, 0, 0, 0), (17, .ishr, 0, 0, 0), (18, .iconst 1, 0, 0, 0), (19, .iand, 0, 0, 0), (20, .iconst 1, 0, 0, 0), (21, .if_icmp .ne 25, 0, 0, 0), (24, .aload_n 0, 0, 0, 0), (25, .getfield 18, 9, 0, 0), (28, .iload_n 3, 0, 0, 0), (29, .bipush 6, 0, 0, 0), (31, .invokevirtual 38, 114, 3, 8), (34, .istore 4, 0, 0, 0), (36, .iload_n 2, 0, 0, 0), (37, .iload 4, 0, 0, 0), (39, .iload 4, 0, 0, 0), (41, .iconst 2, 0, 0, 0), (42, .idiv, 0, 0, 0), (43, .isub, 0, 0, 0), (44, .iadd, 0, 0, 0), (45, .istore_n 2, 0, 0, 0)] : List zz_i)),
  (46, 52, ([(46, .iinc 3 1, 0, 0, 0), (49, .goto (-45), 0, 0, 0)] : List zz_i)),
  (52, 54, ([(52, .iload_n 2, 0, 0, 0), (53, .ireturn, 0, 0, 0)] : List zz_i))])
/-- 126: X10_factsNeeded factsNeeded(I)I  -/
def zm_126 : zz_MI := (⟨"OneStageTwoPlays$Story", "factsNeeded", "(I)I"⟩, prog_12_method_4_code, 5, (some .int), [(0, 4, ([(0, .iconst 0, 0, 0, 0), (1, .istore_n 2, 0, 0, 0), (2, .iconst 0, 0, 0, 0), (3, .istore_n 3, 0, 0, 0)] : List zz_i)),
  (4, 47, ([(4, .iload_n 3, 0, 0, 0), (5, .aload_n 0, 0, 0, 0), (6, .getfield 18, 9, 0, 0), (9, .getfield 32, 8, 2, 1), (12, .if_icmp .ge 41, 0, 0, 0), (15, .aload_n 0, 0, 0, 0), (16, .getfield 18, 9, 0, 0), (19, .iload_n 3, 0, 0, 0), (20, .iconst 5, 0, 0, 0), (21, .invokevirtual 38, 114, 3, 8), (24, .istore 4, 0, 0, 0), (26, .iload_n 1, 0, 0, 0), (27, .iload_n 3, 0, 0, 0), (28, .ishr, 0, 0, 0), (29, .iconst 1, 0, 0, 0), (30, .iand, 0, 0, 0), (31, .iconst 1, 0, 0, 0), (32, .if_icmp .ne 15, 0, 0, 0), (35, .iload 4, 0, 0, 0), (37, .ifCond .lt 10, 0, 0, 0), (40, .iload_n 2, 0, 0, 0), (41, .iconst 1, 0, 0, 0), (42, .iload 4, 0, 0, 0), (44, .ishl, 0, 0, 0), (45, .ior, 0, 0, 0), (46, .istore_n 2, 0, 0, 0)] : List zz_i)),
  (47, 53, ([(47, .iinc 3 1, 0, 0, 0), (50, .goto (-46), 0, 0, 0)] : List zz_i)),
  (53, 55, ([(53, .iload_n 2, 0, 0, 0), (54, .ireturn, 0, 0, 0)] : List zz_i))])
/-- 127: X10_sparable sparable()I  -/
def zm_127 : zz_MI := (⟨"OneStageTwoPlays$Story", "sparable", "()I"⟩, prog_12_method_5_code, 5, (some .int), [(0, 16, ([(0, .aload_n 0, 0, 0, 0), (1, .aload_n 0, 0, 0, 0), (2, .getfield 22, 9, 1, 0), (5, .getfield 49, 5, 2, 1), (8, .invokevirtual 52, 124, 2, 9), (11, .istore_n 1, 0, 0, 0), (12, .iconst 0, 0, 0, 0), (13, .istore_n 2, 0, 0, 0), (14, .iconst 0, 0, 0, 0), (15, .istore_n 3, 0, 0, 0)] : List zz_i)),
  (16, 73, ([(16, .iload_n 3, 0, 0, 0), (17, .aload_n 0, 0, 0, 0), (18, .getfield 18, 9, 0, 0), (21, .getfield 32, 8, 2, 1), (24, .if_icmp .ge 55, 0, 0, 0), (27, .iconst 1, 0, 0, 0), (28, .iload_n 3, 0, 0, 0), (29, .ishl, 0, 0, 0), (30, .istore 4, 0, 0, 0), (32, .aload_n 0, 0, 0, 0), (33, .getfield 22, 9, 1, 0), (36, .getfield 49, 5, 2, 1), (39, .iload 4, 0, 0, 0), (41, .iand, 0, 0, 0), (42, .ifCond .eq 31, 0, 0, 0), (45, .aload_n 0, 0, 0, 0), (46, .aload_n 0, 0, 0, 0), (47, .getfield 22, 9, 1, 0), (50, .getfield 49, 5, 2, 1), (53, .iload 4, 0, 0, 0), (55, .iconst (-1), 0, 0, 0), (56, .ixor, 0, 0, 0), (57, .iand, 0, 0, 0), (58, .invokevirtual 52, 124, 2, 9), (61, .iload_n 1, 0, 0, 0), (62, .iconst (-1), 0, 0, 0), (63, .ixor, 0, 0, 0), (64, .iand, 0, 0, 0), (65, .ifCond .ne 8, 0, 0, 0), (68, .iload_n 2, 0, 0, 0), (69, .iload 4, 0, 0, 0), (71, .ior, 0, 0, 0), (72, .istore_n 2, 0, 0, 0)] : List zz_i)),
  (73, 79, ([(73, .iinc 3 1, 0, 0, 0), (76, .goto (-60), 0, 0, 0)] : List zz_i)),
  (79, 81, ([(79, .iload_n 2, 0, 0, 0), (80, .ireturn, 0, 0, 0)] : List zz_i))])
/-- 128: X10_broughtInOrder broughtInOrder(I)I  -/
def zm_128 : zz_MI := (⟨"OneStageTwoPlays$Story", "broughtInOrder", "(I)I"⟩, prog_12_method_6_code, 6, (some .int), [(0, 32, ([(0, .aload_n 0, 0, 0, 0), (1, .getfield 22, 9, 1, 0), (4, .getfield 49, 5, 2, 1), (7, .aload_n 0, 0, 0, 0), (8, .getfield 18, 9, 0, 0), (11, .iload_n 1, 0, 0, 0), (12, .invokevirtual 55, 117, 2, 8), (15, .iand, 0, 0, 0), (16, .istore_n 2, 0, 0, 0), (17, .aload_n 0, 0, 0, 0), (18, .getfield 22, 9, 1, 0), (21, .iload_n 1, 0, 0, 0), (22, .invokevirtual 26, 79, 2, 5), (25, .istore_n 3, 0, 0, 0), (26, .iconst 0, 0, 0, 0), (27, .istore 4, 0, 0, 0), (29, .iconst 0, 0, 0, 0), (30, .istore 5, 0, 0, 0)] : List zz_i)),
  (32, 81, ([(32, .iload 5, 0, 0, 0), (34, .aload_n 0, 0, 0, 0), (35, .getfield 18, 9, 0, 0), (38, .getfield 32, 8, 2, 1), (41, .if_icmp .ge 46, 0, 0, 0), (44, .iload_n 2, 0, 0, 0), (45, .iload 5, 0, 0, 0), (47, .ishr, 0, 0, 0), (48, .iconst 1, 0, 0, 0), (49, .iand, 0, 0, 0), (50, .iconst 1, 0, 0, 0), (51, .if_icmp .ne 30, 0, 0, 0), (54, .iload 4, 0, 0, 0), (56, .aload_n 0, 0, 0, 0), (57, .getfield 18, 9, 0, 0), (60, .iload 5, 0, 0, 0), (62, .iload_n 3, 0, 0, 0), (63, .invokevirtual 58, 121, 3, 8), (66, .iadd, 0, 0, 0), (67, .istore 4, 0, 0, 0), (69, .iload_n 3, 0, 0, 0), (70, .aload_n 0, 0, 0, 0), (71, .getfield 18, 9, 0, 0), (74, .iload 5, 0, 0, 0), (76, .invokevirtual 46, 122, 2, 8), (79, .ior, 0, 0, 0), (80, .istore_n 3, 0, 0, 0)] : List zz_i)),
  (81, 87, ([(81, .iinc 5 1, 0, 0, 0), (84, .goto (-52), 0, 0, 0)] : List zz_i)),
  (87, 90, ([(87, .iload 4, 0, 0, 0), (89, .ireturn, 0, 0, 0)] : List zz_i))])
/-- 129: X10_gather gather(I)I  -/
def zm_129 : zz_MI := (⟨"OneStageTwoPlays$Story", "gather", "(I)I"⟩, prog_12_method_7_code, 5, (some .int), [(0, 22, ([(0, .aload_n 0, 0, 0, 0), (1, .getfield 22, 9, 1, 0), (4, .getfield 49, 5, 2, 1), (7, .aload_n 0, 0, 0, 0), (8, .getfield 18, 9, 0, 0), (11, .iload_n 1, 0, 0, 0), (12, .invokevirtual 55, 117, 2, 8), (15, .iand, 0, 0, 0), (16, .istore_n 2, 0, 0, 0), (17, .iconst 0, 0, 0, 0), (18, .istore_n 3, 0, 0, 0), (19, .iconst 0, 0, 0, 0), (20, .istore 4, 0, 0, 0)] : List zz_i)),
  (22, 64, ([(22, .iload 4, 0, 0, 0), (24, .aload_n 0, 0, 0, 0), (25, .getfield 18, 9, 0, 0), (28, .getfield 32, 8, 2, 1), (31, .if_icmp .ge 39, 0, 0, 0), (34, .iload_n 2, 0, 0, 0), (35, .iload 4, 0, 0, 0), (37, .ishr, 0, 0, 0), (38, .iconst 1, 0, 0, 0), (39, .iand, 0, 0, 0), (40, .iconst 1, 0, 0, 0), (41, .if_icmp .ne 23, 0, 0, 0), (44, .iload_n 3, 0, 0, 0), (45, .aload_n 0, 0, 0, 0), (46, .getfield 9, 9, 2, 0), (49, .arraylength, 0, 0, 0), (50, .if_icmp .ge 14, 0, 0, 0), (53, .aload_n 0, 0, 0, 0), (54, .getfield 9, 9, 2, 0), (57, .iload_n 3, 0, 0, 0), (58, .iload 4, 0, 0, 0), (60, .iastore, 0, 0, 0), (61, .iinc 3 1, 0, 0, 0)] : List zz_i)),
  (64, 70, ([(64, .iinc 4 1, 0, 0, 0), (67, .goto (-45), 0, 0, 0)] : List zz_i)),
  (70, 72, ([(70, .iload_n 3, 0, 0, 0), (71, .ireturn, 0, 0, 0)] : List zz_i))])
/-- 130: X10_mostBrought mostBrought(I)I  -/
def zm_130 : zz_MI := (⟨"OneStageTwoPlays$Story", "mostBrought", "(I)I"⟩, prog_12_method_8_code, 5, (some .int), [(0, 26, ([(0, .aload_n 0, 0, 0, 0), (1, .iload_n 1, 0, 0, 0), (2, .invokevirtual 61, 129, 2, 9), (5, .istore_n 2, 0, 0, 0), (6, .iconst 1, 0, 0, 0), (7, .iload_n 2, 0, 0, 0), (8, .ishl, 0, 0, 0), (9, .istore_n 3, 0, 0, 0), (10, .aload_n 0, 0, 0, 0), (11, .getfield 15, 9, 3, 0), (14, .arraylength, 0, 0, 0), (15, .iload_n 3, 0, 0, 0), (16, .if_icmp .ge 10, 0, 0, 0), (19, .aload_n 0, 0, 0, 0), (20, .iload_n 3, 0, 0, 0), (21, .newarray .int, 0, 0, 0), (23, .putfield 15, 9, 3, 0)] : List zz_i)),
  (26, 29, ([(26, .iconst 0, 0, 0, 0), (27, .istore 4, 0, 0, 0)] : List zz_i)),
  (29, 59, ([(29, .iload 4, 0, 0, 0), (31, .iload_n 3, 0, 0, 0), (32, .if_icmp .ge 27, 0, 0, 0), (35, .iload 4, 0, 0, 0), (37, .aload_n 0, 0, 0, 0), (38, .getfield 15, 9, 3, 0), (41, .arraylength, 0, 0, 0), (42, .if_icmp .ge 17, 0, 0, 0), (45, .aload_n 0, 0, 0, 0), (46, .getfield 15, 9, 3, 0), (49, .iload 4, 0, 0, 0), (51, .iconst 0, 0, 0, 0), (52, .iastore, 0, 0, 0), (53, .iinc 4 1, 0, 0, 0), (56, .goto (-27), 0, 0, 0)] : List zz_i)),
  (59, 62, ([(59, .iconst 0, 0, 0, 0), (60, .istore 4, 0, 0, 0)] : List zz_i)),
  (62, 97, ([(62, .iload 4, 0, 0, 0), (64, .iload_n 3, 0, 0, 0), (65, .if_icmp .ge 32, 0, 0, 0), (68, .aload_n 0, 0, 0, 0), (69, .iload 4, 0, 0, 0), (71, .iload_n 2, 0, 0, 0), (72, .aload_n 0, 0, 0, 0), (73, .getfield 22, 9, 1, 0), (76, .iload_n 1, 0, 0, 0), (77, .invokevirtual 26, 79, 2, 5), (80, .aload_n 0, 0, 0, 0), (81, .iload 4, 0, 0, 0), (83, .iload_n 2, 0, 0, 0), (84, .invokevirtual 64, 131, 3, 9), (87, .ior, 0, 0, 0), (88, .invokevirtual 67, 132, 4, 9), (91, .iinc 4 1, 0, 0, 0), (94, .goto (-32), 0, 0, 0)] : List zz_i)),
  (97, 122, ([(97, .iload_n 3, 0, 0, 0), (98, .iconst 1, 0, 0, 0), (99, .isub, 0, 0, 0), (100, .istore 4, 0, 0, 0), (102, .iload 4, 0, 0, 0), (104, .aload_n 0, 0, 0, 0), (105, .getfield 15, 9, 3, 0), (108, .arraylength, 0, 0, 0), (109, .if_icmp .ge 13, 0, 0, 0), (112, .aload_n 0, 0, 0, 0), (113, .getfield 15, 9, 3, 0), (116, .iload 4, 0, 0, 0), (118, .iaload, 0, 0, 0), (119, .goto 4, 0, 0, 0)] : List zz_i)),
  (122, 123, ([(122, .iconst 0, 0, 0, 0)] : List zz_i)),
  (123, 124, ([(123, .ireturn, 0, 0, 0)] : List zz_i))])
/-- 131: X10_toldBy toldBy(II)I  -/
def zm_131 : zz_MI := (⟨"OneStageTwoPlays$Story", "toldBy", "(II)I"⟩, prog_12_method_9_code, 5, (some .int), [(0, 5, ([(0, .iconst 0, 0, 0, 0), (1, .istore_n 3, 0, 0, 0), (2, .iconst 0, 0, 0, 0), (3, .istore 4, 0, 0, 0)] : List zz_i)),
  (5, 48, ([(5, .iload 4, 0, 0, 0), (7, .iload_n 2, 0, 0, 0), (8, .if_icmp .ge 46, 0, 0, 0), (11, .iload 4, 0, 0, 0), (13, .aload_n 0, 0, 0, 0), (14, .getfield 9, 9, 2, 0), (17, .arraylength, 0, 0, 0), (18, .if_icmp .ge 36, 0, 0, 0), (21, .iload_n 1, 0, 0, 0), (22, .iload 4, 0, 0, 0), (24, .ishr, 0, 0, 0), (25, .iconst 1, 0, 0, 0), (26, .iand, 0, 0, 0), (27, .iconst 1, 0, 0, 0), (28, .if_icmp .ne 20, 0, 0, 0), (31, .iload_n 3, 0, 0, 0), (32, .aload_n 0, 0, 0, 0), (33, .getfield 18, 9, 0, 0), (36, .aload_n 0, 0, 0, 0), (37, .getfield 9, 9, 2, 0), (40, .iload 4, 0, 0, 0), (42, .iaload, 0, 0, 0), (43, .invokevirtual 46, 122, 2, 8), (46, .ior, 0, 0, 0), (47, .istore_n 3, 0, 0, 0)] : List zz_i)),
  (48, 54, ([(48, .iinc 4 1, 0, 0, 0), (51, .goto (-46), 0, 0, 0)] : List zz_i)),
  (54, 56, ([(54, .iload_n 3, 0, 0, 0), (55, .ireturn, 0, 0, 0)] : List zz_i))])
/-- 132: X10_spread spread(III)V  -/
def zm_132 : zz_MI := (⟨"OneStageTwoPlays$Story", "spread", "(III)V"⟩, prog_12_method_10_code, 6, none, [(0, 3, ([(0, .iconst 0, 0, 0, 0), (1, .istore 4, 0, 0, 0)] : List zz_i)),
  (3, 91, ([(3, .iload 4, 0, 0, 0), (5, .iload_n 2, 0, 0, 0), (6, .if_icmp .ge 91, 0, 0, 0), (9, .iload 4, 0, 0, 0), (11, .aload_n 0, 0, 0, 0), (12, .getfield 9, 9, 2, 0), (15, .arraylength, 0, 0, 0), (16, .if_icmp .ge 81, 0, 0, 0), (19, .iload_n 1, 0, 0, 0), (20, .iconst 1, 0, 0, 0), (21, .iload 4, 0, 0, 0), (23, .ishl, 0, 0, 0), (24, .ior, 0, 0, 0), (25, .istore 5, 0, 0, 0), (27, .iload 5, 0, 0, 0), (29, .iload_n 1, 0, 0, 0), (30, .if_icmp .eq 61, 0, 0, 0), (33, .iload 5, 0, 0, 0), (35, .aload_n 0, 0, 0, 0), (36, .getfield 15, 9, 3, 0), (39, .arraylength, 0, 0, 0), (40, .if_icmp .ge 51, 0, 0, 0), (43, .iload_n 1, 0, 0, 0), (44, .aload_n 0, 0, 0, 0), (45, .getfield 15, 9, 3, 0), (48, .arraylength, 0, 0, 0), (49, .if_icmp .ge 42, 0, 0, 0), (52, .aload_n 0, 0, 0, 0), (53, .getfield 15, 9, 3, 0), (56, .iload 5, 0, 0, 0), (58, .aload_n 0, 0, 0, 0), (59, .getfield 15, 9, 3, 0), (62, .iload 5, 0, 0, 0), (64, .iaload, 0, 0, 0), (65, .aload_n 0, 0, 0, 0), (66, .getfield 15, 9, 3, 0), (69, .iload_n 1, 0, 0, 0), (70, .iaload, 0, 0, 0), (71, .aload_n 0, 0, 0, 0), (72, .getfield 18, 9, 0, 0), (75, .aload_n 0, 0, 0, 0), (76, .getfield 9, 9, 2, 0), (79, .iload 4, 0, 0, 0), (81, .iaload, 0, 0, 0), (82, .iload_n 3, 0, 0, 0), (83, .invokevirtual 58, 121, 3, 8), (86, .iadd, 0, 0, 0), (87, .invokestatic 71, 309, 2, 0), (90, .iastore, 0, 0, 0)] : List zz_i)),
  (91, 97, ([(91, .iinc 4 1, 0, 0, 0), (94, .goto (-91), 0, 0, 0)] : List zz_i)),
  (97, 98, ([(97, .return_, 0, 0, 0)] : List zz_i))])
/-- 133: X11_init <init>()V  -/
def zm_133 : zz_MI := (⟨"OneStageTwoPlays", "<init>", "()V"⟩, prog_1_method_1_code, 1, none, [(0, 162, ([(0, .aload_n 0, 0, 0, 0), (1, .invokespecial 1, 999, 1, 0), (4, .aload_n 0, 0, 0, 0), (5, .bipush 80, 0, 0, 0), (7, .newarray .char, 0, 0, 0), (9, .putfield 9, 10, 0, 0), (12, .aload_n 0, 0, 0, 0), (13, .bipush 12, 0, 0, 0), (15, .newarray .long, 0, 0, 0), (17, .putfield 13, 10, 2, 0), (20, .aload_n 0, 0, 0, 0), (21, .new 17, 8, 0, 0), (24, .dup, 0, 0, 0), (25, .invokespecial 19, 112, 1, 1), (28, .putfield 20, 10, 4, 0), (31, .aload_n 0, 0, 0, 0), (32, .new 24, 5, 0, 0), (35, .dup, 0, 0, 0), (36, .invokespecial 26, 77, 1, 1), (39, .putfield 27, 10, 5, 0), (42, .aload_n 0, 0, 0, 0), (43, .new 31, 6, 0, 0), (46, .dup, 0, 0, 0), (47, .invokespecial 33, 85, 1, 0), (50, .putfield 34, 10, 6, 0), (53, .aload_n 0, 0, 0, 0), (54, .new 38, 1, 0, 0), (57, .dup, 0, 0, 0), (58, .invokespecial 40, 4, 1, 0), (61, .putfield 41, 10, 7, 0), (64, .aload_n 0, 0, 0, 0), (65, .new 38, 1, 0, 0), (68, .dup, 0, 0, 0), (69, .invokespecial 40, 4, 1, 0), (72, .putfield 45, 10, 8, 0), (75, .aload_n 0, 0, 0, 0), (76, .new 48, 3, 0, 0), (79, .dup, 0, 0, 0), (80, .aload_n 0, 0, 0, 0), (81, .getfield 20, 10, 4, 0), (84, .invokespecial 50, 32, 2, 0), (87, .putfield 53, 10, 9, 0), (90, .aload_n 0, 0, 0, 0), (91, .new 57, 7, 0, 0), (94, .dup, 0, 0, 0), (95, .invokespecial 59, 97, 1, 1), (98, .putfield 60, 10, 10, 0), (101, .aload_n 0, 0, 0, 0), (102, .new 64, 0, 0, 0), (105, .dup, 0, 0, 0), (106, .invokespecial 66, 0, 1, 1), (109, .putfield 67, 10, 11, 0), (112, .aload_n 0, 0, 0, 0), (113, .new 71, 4, 0, 0), (116, .dup, 0, 0, 0), (117, .aload_n 0, 0, 0, 0), (118, .getfield 20, 10, 4, 0), (121, .invokespecial 73, 45, 2, 0), (124, .putfield 74, 10, 12, 0), (127, .aload_n 0, 0, 0, 0), (128, .new 78, 9, 0, 0), (131, .dup, 0, 0, 0), (132, .aload_n 0, 0, 0, 0), (133, .getfield 20, 10, 4, 0), (136, .aload_n 0, 0, 0, 0), (137, .getfield 27, 10, 5, 0), (140, .invokespecial 80, 123, 3, 0), (143, .putfield 83, 10, 13, 0), (146, .aload_n 0, 0, 0, 0), (147, .new 87, 2, 0, 0), (150, .dup, 0, 0, 0), (151, .aload_n 0, 0, 0, 0), (152, .getfield 20, 10, 4, 0), (155, .invokespecial 89, 15, 2, 0), (158, .putfield 90, 10, 14, 0), (161, .return_, 0, 0, 0)] : List zz_i))])
/-- 134: X11_sign sign(I)I  -/
def zm_134 : zz_MI := (⟨"OneStageTwoPlays", "sign", "(I)I"⟩, prog_1_method_2_code, 3, (some .int), [(0, 13, ([(0, .aload_n 0, 0, 0, 0), (1, .getfield 94, 10, 1, 0), (4, .iconst 4, 0, 0, 0), (5, .iadd, 0, 0, 0), (6, .bipush 80, 0, 0, 0), (8, .if_icmp .le 5, 0, 0, 0), (11, .iconst (-1), 0, 0, 0), (12, .ireturn, 0, 0, 0)] : List zz_i)),
  (13, 16, ([(13, .bipush 24, 0, 0, 0), (15, .istore_n 2, 0, 0, 0)] : List zz_i)),
  (16, 37, ([(16, .iload_n 2, 0, 0, 0), (17, .ifCond .lt 20, 0, 0, 0), (20, .aload_n 0, 0, 0, 0), (21, .iload_n 1, 0, 0, 0), (22, .iload_n 2, 0, 0, 0), (23, .iushr, 0, 0, 0), (24, .sipush 255, 0, 0, 0), (27, .iand, 0, 0, 0), (28, .invokevirtual 98, 181, 2, 10), (31, .iinc 2 (-8), 0, 0, 0), (34, .goto (-18), 0, 0, 0)] : List zz_i)),
  (37, 42, ([(37, .aload_n 0, 0, 0, 0), (38, .getfield 94, 10, 1, 0), (41, .ireturn, 0, 0, 0)] : List zz_i))])
/-- 135: X11_end end(I)Z  -/
def zm_135 : zz_MI := (⟨"OneStageTwoPlays", "end", "(I)Z"⟩, prog_1_method_3_code, 2, (some .boolean), [(0, 12, ([(0, .iload_n 1, 0, 0, 0), (1, .ifCond .lt 11, 0, 0, 0), (4, .iload_n 1, 0, 0, 0), (5, .aload_n 0, 0, 0, 0), (6, .getfield 94, 10, 1, 0), (9, .if_icmp .le 5, 0, 0, 0)] : List zz_i)),
  (12, 14, ([(12, .iconst 0, 0, 0, 0), (13, .ireturn, 0, 0, 0)] : List zz_i)),
  (14, 21, ([(14, .aload_n 0, 0, 0, 0), (15, .iload_n 1, 0, 0, 0), (16, .putfield 94, 10, 1, 0), (19, .iconst 1, 0, 0, 0), (20, .ireturn, 0, 0, 0)] : List zz_i))])
/-- 136: X11_scenes scenes()I  -/
def zm_136 : zz_MI := (⟨"OneStageTwoPlays", "scenes", "()I"⟩, prog_1_method_4_code, 4, (some .int), [(0, 11, ([(0, .aload_n 0, 0, 0, 0), (1, .invokevirtual 102, 182, 1, 10), (4, .istore_n 1, 0, 0, 0), (5, .iload_n 1, 0, 0, 0), (6, .ifCond .ne 5, 0, 0, 0), (9, .iconst 0, 0, 0, 0), (10, .ireturn, 0, 0, 0)] : List zz_i)),
  (11, 35, ([(11, .aload_n 0, 0, 0, 0), (12, .getfield 53, 10, 9, 0), (15, .aload_n 0, 0, 0, 0), (16, .getfield 9, 10, 0, 0), (19, .iload_n 1, 0, 0, 0), (20, .bipush 76, 0, 0, 0), (22, .invokevirtual 106, 312, 4, 3), (25, .istore_n 2, 0, 0, 0), (26, .iload_n 2, 0, 0, 0), (27, .iconst (-1), 0, 0, 0), (28, .if_icmp .eq 7, 0, 0, 0), (31, .iconst (-1), 0, 0, 0), (32, .iload_n 2, 0, 0, 0), (33, .isub, 0, 0, 0), (34, .ireturn, 0, 0, 0)] : List zz_i)),
  (35, 86, ([(35, .aload_n 0, 0, 0, 0), (36, .getfield 53, 10, 9, 0), (39, .invokevirtual 110, 33, 1, 3), (42, .istore_n 3, 0, 0, 0), (43, .aload_n 0, 0, 0, 0), (44, .getfield 27, 10, 5, 0), (47, .dup, 0, 0, 0), (48, .getfield 113, 5, 2, 1), (51, .aload_n 0, 0, 0, 0), (52, .getfield 20, 10, 4, 0), (55, .iload_n 3, 0, 0, 0), (56, .invokevirtual 116, 116, 2, 8), (59, .ior, 0, 0, 0), (60, .putfield 113, 5, 2, 1), (63, .aload_n 0, 0, 0, 0), (64, .getfield 41, 10, 7, 0), (67, .invokevirtual 120, 8, 1, 1), (70, .aload_n 0, 0, 0, 0), (71, .getfield 34, 10, 6, 0), (74, .invokevirtual 123, 91, 1, 6), (77, .aload_n 0, 0, 0, 0), (78, .getfield 34, 10, 6, 0), (81, .invokevirtual 126, 92, 1, 6), (84, .iload_n 3, 0, 0, 0), (85, .ireturn, 0, 0, 0)] : List zz_i))])
/-- 137: X11_rule rule()I  -/
def zm_137 : zz_MI := (⟨"OneStageTwoPlays", "rule", "()I"⟩, prog_1_method_5_code, 3, (some .int), [(0, 18, ([(0, .aload_n 0, 0, 0, 0), (1, .invokevirtual 102, 182, 1, 10), (4, .istore_n 1, 0, 0, 0), (5, .iload_n 1, 0, 0, 0), (6, .ifCond .ne 12, 0, 0, 0), (9, .aload_n 0, 0, 0, 0), (10, .getfield 41, 10, 7, 0), (13, .invokevirtual 129, 5, 1, 1), (16, .iconst 0, 0, 0, 0), (17, .ireturn, 0, 0, 0)] : List zz_i)),
  (18, 42, ([(18, .aload_n 0, 0, 0, 0), (19, .getfield 60, 10, 10, 0), (22, .aload_n 0, 0, 0, 0), (23, .getfield 9, 10, 0, 0), (26, .iload_n 1, 0, 0, 0), (27, .bipush 40, 0, 0, 0), (29, .invokevirtual 132, 313, 4, 7), (32, .istore_n 2, 0, 0, 0), (33, .iload_n 2, 0, 0, 0), (34, .iconst (-1), 0, 0, 0), (35, .if_icmp .eq 7, 0, 0, 0), (38, .iconst (-1), 0, 0, 0), (39, .iload_n 2, 0, 0, 0), (40, .isub, 0, 0, 0), (41, .ireturn, 0, 0, 0)] : List zz_i)),
  (42, 55, ([(42, .aload_n 0, 0, 0, 0), (43, .getfield 41, 10, 7, 0), (46, .aload_n 0, 0, 0, 0), (47, .getfield 60, 10, 10, 0), (50, .invokevirtual 133, 6, 2, 1), (53, .iconst 0, 0, 0, 0), (54, .ireturn, 0, 0, 0)] : List zz_i))])
/-- 138: X11_scene scene(II)I  -/
def zm_138 : zz_MI := (⟨"OneStageTwoPlays", "scene", "(II)I"⟩, prog_1_method_6_code, 3, (some .int), [(0, 21, ([(0, .aload_n 0, 0, 0, 0), (1, .getfield 20, 10, 4, 0), (4, .iload_n 1, 0, 0, 0), (5, .invokevirtual 137, 113, 2, 8), (8, .ifCond .eq 13, 0, 0, 0), (11, .iload_n 2, 0, 0, 0), (12, .ifCond .lt 9, 0, 0, 0), (15, .iload_n 2, 0, 0, 0), (16, .bipush 7, 0, 0, 0), (18, .if_icmp .le 11, 0, 0, 0)] : List zz_i)),
  (21, 29, ([(21, .new 141, 99, 0, 0), (24, .dup, 0, 0, 0), (25, .invokespecial 143, 998, 1, 0), (28, .athrow, 0, 0, 0)] : List zz_i)),
  (29, 44, ([(29, .iload_n 2, 0, 0, 0), (30, .bipush 7, 0, 0, 0), (32, .if_icmp .ne 12, 0, 0, 0), (35, .aload_n 0, 0, 0, 0), (36, .getfield 27, 10, 5, 0), (39, .iload_n 1, 0, 0, 0), (40, .invokevirtual 144, 81, 2, 5), (43, .ireturn, 0, 0, 0)] : List zz_i)),
  (44, 54, ([(44, .aload_n 0, 0, 0, 0), (45, .getfield 20, 10, 4, 0), (48, .iload_n 1, 0, 0, 0), (49, .iload_n 2, 0, 0, 0), (50, .invokevirtual 147, 114, 3, 8), (53, .ireturn, 0, 0, 0)] : List zz_i))])
/-- 139: X11_play play(II)I  -/
def zm_139 : zz_MI := (⟨"OneStageTwoPlays", "play", "(II)I"⟩, prog_1_method_7_code, 4, (some .int), [(0, 15, ([(0, .iload_n 1, 0, 0, 0), (1, .invokestatic 151, 178, 1, 0), (4, .ifCond .ne 11, 0, 0, 0), (7, .new 141, 99, 0, 0), (10, .dup, 0, 0, 0), (11, .invokespecial 143, 998, 1, 0), (14, .athrow, 0, 0, 0)] : List zz_i)),
  (15, 68, ([(15, .aload_n 0, 0, 0, 0), (16, .getfield 20, 10, 4, 0), (19, .iload_n 1, 0, 0, 0), (20, .invokevirtual 154, 117, 2, 8), (23, .istore_n 3, 0, 0, 0), (24, .iload_n 2, 0, 0, 0), (25, .tableswitch 115 0 6 #[43, 53, 63, 73, 82, 91, 97], 0, 0, 43)] : List zz_i)),
  (68, 78, ([(68, .aload_n 0, 0, 0, 0), (69, .getfield 27, 10, 5, 0), (72, .getfield 113, 5, 2, 1), (75, .iload_n 3, 0, 0, 0), (76, .iand, 0, 0, 0), (77, .ireturn, 0, 0, 0)] : List zz_i)),
  (78, 88, ([(78, .aload_n 0, 0, 0, 0), (79, .getfield 27, 10, 5, 0), (82, .getfield 157, 5, 3, 1), (85, .iload_n 3, 0, 0, 0), (86, .iand, 0, 0, 0), (87, .ireturn, 0, 0, 0)] : List zz_i)),
  (88, 98, ([(88, .aload_n 0, 0, 0, 0), (89, .getfield 27, 10, 5, 0), (92, .getfield 160, 5, 4, 1), (95, .iload_n 3, 0, 0, 0), (96, .iand, 0, 0, 0), (97, .ireturn, 0, 0, 0)] : List zz_i)),
  (98, 107, ([(98, .aload_n 0, 0, 0, 0), (99, .getfield 27, 10, 5, 0), (102, .iload_n 1, 0, 0, 0), (103, .invokevirtual 163, 79, 2, 5), (106, .ireturn, 0, 0, 0)] : List zz_i)),
  (107, 116, ([(107, .aload_n 0, 0, 0, 0), (108, .getfield 27, 10, 5, 0), (111, .iload_n 1, 0, 0, 0), (112, .invokevirtual 166, 80, 2, 5), (115, .ireturn, 0, 0, 0)] : List zz_i)),
  (116, 122, ([(116, .aload_n 0, 0, 0, 0), (117, .iload_n 1, 0, 0, 0), (118, .invokevirtual 169, 190, 2, 10), (121, .ireturn, 0, 0, 0)] : List zz_i)),
  (122, 140, ([(122, .aload_n 0, 0, 0, 0), (123, .getfield 20, 10, 4, 0), (126, .aload_n 0, 0, 0, 0), (127, .getfield 27, 10, 5, 0), (130, .getfield 113, 5, 2, 1), (133, .iload_n 3, 0, 0, 0), (134, .iand, 0, 0, 0), (135, .iconst 1, 0, 0, 0), (136, .invokevirtual 172, 118, 3, 8), (139, .ireturn, 0, 0, 0)] : List zz_i)),
  (140, 148, ([(140, .new 141, 99, 0, 0), (143, .dup, 0, 0, 0), (144, .invokespecial 143, 998, 1, 0), (147, .athrow, 0, 0, 0)] : List zz_i))])
/-- 140: X11_sheet sheet(IIII)I  -/
def zm_140 : zz_MI := (⟨"OneStageTwoPlays", "sheet", "(IIII)I"⟩, prog_1_method_8_code, 5, (some .int), [(0, 15, ([(0, .iload_n 1, 0, 0, 0), (1, .ifCond .lt 14, 0, 0, 0), (4, .iload_n 1, 0, 0, 0), (5, .iconst 3, 0, 0, 0), (6, .if_icmp .gt 9, 0, 0, 0), (9, .iload_n 2, 0, 0, 0), (10, .bipush 12, 0, 0, 0), (12, .if_icmp .le 5, 0, 0, 0)] : List zz_i)),
  (15, 17, ([(15, .iconst (-1), 0, 0, 0), (16, .ireturn, 0, 0, 0)] : List zz_i)),
  (17, 34, ([(17, .iload_n 1, 0, 0, 0), (18, .iconst 3, 0, 0, 0), (19, .if_icmp .ne 15, 0, 0, 0), (22, .aload_n 0, 0, 0, 0), (23, .iconst 2, 0, 0, 0), (24, .iconst 0, 0, 0, 0), (25, .iconst 1, 0, 0, 0), (26, .iconst 0, 0, 0, 0), (27, .invokevirtual 175, 196, 5, 10), (30, .pop, 0, 0, 0), (31, .bipush (-3), 0, 0, 0), (33, .ireturn, 0, 0, 0)] : List zz_i)),
  (34, 41, ([(34, .iload_n 2, 0, 0, 0), (35, .ifCond .ge 6, 0, 0, 0), (38, .bipush (-2), 0, 0, 0), (40, .ireturn, 0, 0, 0)] : List zz_i)),
  (41, 51, ([(41, .aload_n 0, 0, 0, 0), (42, .iload_n 1, 0, 0, 0), (43, .iload_n 2, 0, 0, 0), (44, .iload_n 3, 0, 0, 0), (45, .iload 4, 0, 0, 0), (47, .invokevirtual 175, 196, 5, 10), (50, .ireturn, 0, 0, 0)] : List zz_i))])
/-- 141: X11_plays plays(I)I  -/
def zm_141 : zz_MI := (⟨"OneStageTwoPlays", "plays", "(I)I"⟩, prog_1_method_9_code, 5, (some .int), [(0, 9, ([(0, .iload_n 1, 0, 0, 0), (1, .invokestatic 151, 178, 1, 0), (4, .ifCond .ne 5, 0, 0, 0), (7, .iconst (-1), 0, 0, 0), (8, .ireturn, 0, 0, 0)] : List zz_i)),
  (9, 23, ([(9, .aload_n 0, 0, 0, 0), (10, .iload_n 1, 0, 0, 0), (11, .invokevirtual 169, 190, 2, 10), (14, .istore_n 2, 0, 0, 0), (15, .iload_n 2, 0, 0, 0), (16, .iconst (-1), 0, 0, 0), (17, .if_icmp .ne 6, 0, 0, 0), (20, .bipush (-2), 0, 0, 0), (22, .ireturn, 0, 0, 0)] : List zz_i)),
  (23, 95, ([(23, .aload_n 0, 0, 0, 0), (24, .getfield 41, 10, 7, 0), (27, .aload_n 0, 0, 0, 0), (28, .getfield 20, 10, 4, 0), (31, .invokevirtual 179, 9, 2, 1), (34, .aload_n 0, 0, 0, 0), (35, .getfield 34, 10, 6, 0), (38, .aload_n 0, 0, 0, 0), (39, .getfield 27, 10, 5, 0), (42, .invokevirtual 182, 86, 2, 6), (45, .aload_n 0, 0, 0, 0), (46, .getfield 41, 10, 7, 0), (49, .aload_n 0, 0, 0, 0), (50, .getfield 27, 10, 5, 0), (53, .getfield 186, 5, 1, 1), (56, .iload_n 2, 0, 0, 0), (57, .invokevirtual 189, 10, 3, 1), (60, .istore_n 3, 0, 0, 0), (61, .aload_n 0, 0, 0, 0), (62, .getfield 27, 10, 5, 0), (65, .aload_n 0, 0, 0, 0), (66, .getfield 20, 10, 4, 0), (69, .iload_n 2, 0, 0, 0), (70, .iload_n 3, 0, 0, 0), (71, .invokevirtual 192, 84, 4, 5), (74, .istore 4, 0, 0, 0), (76, .aload_n 0, 0, 0, 0), (77, .iload_n 2, 0, 0, 0), (78, .i2l, 0, 0, 0), (79, .iload_n 3, 0, 0, 0), (80, .i2l, 0, 0, 0), (81, .iload 4, 0, 0, 0), (83, .i2l, 0, 0, 0), (84, .invokevirtual 196, 186, 4, 10), (87, .aload_n 0, 0, 0, 0), (88, .getfield 27, 10, 5, 0), (91, .getfield 200, 5, 0, 1), (94, .ireturn, 0, 0, 0)] : List zz_i))])
/-- 142: X11_cut cut(I)I  -/
def zm_142 : zz_MI := (⟨"OneStageTwoPlays", "cut", "(I)I"⟩, prog_1_method_10_code, 3, (some .int), [(0, 12, ([(0, .aload_n 0, 0, 0, 0), (1, .iload_n 1, 0, 0, 0), (2, .invokevirtual 203, 194, 2, 10), (5, .istore_n 2, 0, 0, 0), (6, .iload_n 2, 0, 0, 0), (7, .ifCond .eq 5, 0, 0, 0), (10, .iload_n 2, 0, 0, 0), (11, .ireturn, 0, 0, 0)] : List zz_i)),
  (12, 37, ([(12, .aload_n 0, 0, 0, 0), (13, .getfield 34, 10, 6, 0), (16, .aload_n 0, 0, 0, 0), (17, .getfield 27, 10, 5, 0), (20, .invokevirtual 182, 86, 2, 6), (23, .aload_n 0, 0, 0, 0), (24, .getfield 27, 10, 5, 0), (27, .iload_n 1, 0, 0, 0), (28, .invokevirtual 206, 82, 2, 5), (31, .aload_n 0, 0, 0, 0), (32, .iload_n 1, 0, 0, 0), (33, .invokevirtual 209, 192, 2, 10), (36, .ireturn, 0, 0, 0)] : List zz_i))])
/-- 143: X11_puts puts(I)I  -/
def zm_143 : zz_MI := (⟨"OneStageTwoPlays", "puts", "(I)I"⟩, prog_1_method_11_code, 4, (some .int), [(0, 13, ([(0, .aload_n 0, 0, 0, 0), (1, .getfield 20, 10, 4, 0), (4, .iload_n 1, 0, 0, 0), (5, .invokevirtual 137, 113, 2, 8), (8, .ifCond .ne 5, 0, 0, 0), (11, .iconst (-1), 0, 0, 0), (12, .ireturn, 0, 0, 0)] : List zz_i)),
  (13, 32, ([(13, .iconst 1, 0, 0, 0), (14, .iload_n 1, 0, 0, 0), (15, .ishl, 0, 0, 0), (16, .istore_n 2, 0, 0, 0), (17, .aload_n 0, 0, 0, 0), (18, .getfield 27, 10, 5, 0), (21, .getfield 160, 5, 4, 1), (24, .iload_n 2, 0, 0, 0), (25, .iand, 0, 0, 0), (26, .ifCond .ne 6, 0, 0, 0), (29, .bipush (-2), 0, 0, 0), (31, .ireturn, 0, 0, 0)] : List zz_i)),
  (32, 67, ([(32, .aload_n 0, 0, 0, 0), (33, .getfield 20, 10, 4, 0), (36, .aload_n 0, 0, 0, 0), (37, .getfield 20, 10, 4, 0), (40, .iload_n 1, 0, 0, 0), (41, .iconst 0, 0, 0, 0), (42, .invokevirtual 147, 114, 3, 8), (45, .invokevirtual 154, 117, 2, 8), (48, .istore_n 3, 0, 0, 0), (49, .aload_n 0, 0, 0, 0), (50, .getfield 27, 10, 5, 0), (53, .getfield 157, 5, 3, 1), (56, .iload_n 3, 0, 0, 0), (57, .iand, 0, 0, 0), (58, .iload_n 2, 0, 0, 0), (59, .ineg, 0, 0, 0), (60, .iand, 0, 0, 0), (61, .ifCond .eq 6, 0, 0, 0), (64, .bipush (-3), 0, 0, 0), (66, .ireturn, 0, 0, 0)] : List zz_i)),
  (67, 92, ([(67, .aload_n 0, 0, 0, 0), (68, .getfield 34, 10, 6, 0), (71, .aload_n 0, 0, 0, 0), (72, .getfield 27, 10, 5, 0), (75, .invokevirtual 182, 86, 2, 6), (78, .aload_n 0, 0, 0, 0), (79, .getfield 27, 10, 5, 0), (82, .iload_n 1, 0, 0, 0), (83, .invokevirtual 212, 83, 2, 5), (86, .aload_n 0, 0, 0, 0), (87, .iload_n 1, 0, 0, 0), (88, .invokevirtual 209, 192, 2, 10), (91, .ireturn, 0, 0, 0)] : List zz_i))])
/-- 144: X11_pause pause(I)I  -/
def zm_144 : zz_MI := (⟨"OneStageTwoPlays", "pause", "(I)I"⟩, prog_1_method_12_code, 2, (some .int), [(0, 10, ([(0, .iload_n 1, 0, 0, 0), (1, .ifCond .lt 9, 0, 0, 0), (4, .iload_n 1, 0, 0, 0), (5, .bipush 99, 0, 0, 0), (7, .if_icmp .le 5, 0, 0, 0)] : List zz_i)),
  (10, 12, ([(10, .iconst (-1), 0, 0, 0), (11, .ireturn, 0, 0, 0)] : List zz_i)),
  (12, 40, ([(12, .iload_n 1, 0, 0, 0), (13, .ifCond .le 27, 0, 0, 0), (16, .aload_n 0, 0, 0, 0), (17, .getfield 34, 10, 6, 0), (20, .aload_n 0, 0, 0, 0), (21, .getfield 27, 10, 5, 0), (24, .invokevirtual 182, 86, 2, 6), (27, .aload_n 0, 0, 0, 0), (28, .getfield 27, 10, 5, 0), (31, .dup, 0, 0, 0), (32, .getfield 200, 5, 0, 1), (35, .iload_n 1, 0, 0, 0), (36, .iadd, 0, 0, 0), (37, .putfield 200, 5, 0, 1)] : List zz_i)),
  (40, 48, ([(40, .aload_n 0, 0, 0, 0), (41, .getfield 27, 10, 5, 0), (44, .getfield 200, 5, 0, 1), (47, .ireturn, 0, 0, 0)] : List zz_i))])
/-- 145: X11_evening evening()I  -/
def zm_145 : zz_MI := (⟨"OneStageTwoPlays", "evening", "()I"⟩, prog_1_method_13_code, 7, (some .int), [(0, 33, ([(0, .aload_n 0, 0, 0, 0), (1, .invokevirtual 102, 182, 1, 10), (4, .istore_n 1, 0, 0, 0), (5, .iload_n 1, 0, 0, 0), (6, .ifCond .le 27, 0, 0, 0), (9, .aload_n 0, 0, 0, 0), (10, .getfield 67, 10, 11, 0), (13, .aload_n 0, 0, 0, 0), (14, .getfield 9, 10, 0, 0), (17, .iload_n 1, 0, 0, 0), (18, .bipush 60, 0, 0, 0), (20, .invokevirtual 215, 311, 4, 0), (23, .istore_n 2, 0, 0, 0), (24, .iload_n 2, 0, 0, 0), (25, .iconst (-1), 0, 0, 0), (26, .if_icmp .eq 7, 0, 0, 0), (29, .iconst (-1), 0, 0, 0), (30, .iload_n 2, 0, 0, 0), (31, .isub, 0, 0, 0), (32, .ireturn, 0, 0, 0)] : List zz_i)),
  (33, 65, ([(33, .aload_n 0, 0, 0, 0), (34, .getfield 41, 10, 7, 0), (37, .aload_n 0, 0, 0, 0), (38, .getfield 20, 10, 4, 0), (41, .invokevirtual 179, 9, 2, 1), (44, .aload_n 0, 0, 0, 0), (45, .getfield 34, 10, 6, 0), (48, .aload_n 0, 0, 0, 0), (49, .getfield 27, 10, 5, 0), (52, .invokevirtual 216, 87, 2, 6), (55, .iconst 0, 0, 0, 0), (56, .istore_n 2, 0, 0, 0), (57, .iconst 0, 0, 0, 0), (58, .istore_n 3, 0, 0, 0), (59, .iconst 0, 0, 0, 0), (60, .istore 4, 0, 0, 0), (62, .iconst 0, 0, 0, 0), (63, .istore 5, 0, 0, 0)] : List zz_i)),
  (65, 122, ([(65, .iload 5, 0, 0, 0), (67, .iload_n 1, 0, 0, 0), (68, .if_icmp .ge 73, 0, 0, 0), (71, .iload_n 2, 0, 0, 0), (72, .iload_n 1, 0, 0, 0), (73, .if_icmp .ge 68, 0, 0, 0), (76, .iload 4, 0, 0, 0), (78, .ifCond .ne 63, 0, 0, 0), (81, .aload_n 0, 0, 0, 0), (82, .iload_n 2, 0, 0, 0), (83, .invokevirtual 219, 183, 2, 10), (86, .istore 6, 0, 0, 0), (88, .aload_n 0, 0, 0, 0), (89, .iload 6, 0, 0, 0), (91, .aload_n 0, 0, 0, 0), (92, .iload_n 2, 0, 0, 0), (93, .iconst 1, 0, 0, 0), (94, .iadd, 0, 0, 0), (95, .invokevirtual 219, 183, 2, 10), (98, .invokevirtual 222, 195, 3, 10), (101, .ifCond .eq 31, 0, 0, 0), (104, .iinc 3 1, 0, 0, 0), (107, .iload_n 2, 0, 0, 0), (108, .iload 6, 0, 0, 0), (110, .bipush 120, 0, 0, 0), (112, .if_icmp .eq 10, 0, 0, 0), (115, .iload 6, 0, 0, 0), (117, .bipush 119, 0, 0, 0), (119, .if_icmp .ne 7, 0, 0, 0)] : List zz_i)),
  (122, 126, ([(122, .iconst 2, 0, 0, 0), (123, .goto 4, 0, 0, 0)] : List zz_i)),
  (126, 127, ([(126, .iconst 1, 0, 0, 0)] : List zz_i)),
  (127, 132, ([(127, .iadd, 0, 0, 0), (128, .istore_n 2, 0, 0, 0), (129, .goto 6, 0, 0, 0)] : List zz_i)),
  (132, 135, ([(132, .iconst 1, 0, 0, 0), (133, .istore 4, 0, 0, 0)] : List zz_i)),
  (135, 141, ([(135, .iinc 5 1, 0, 0, 0), (138, .goto (-73), 0, 0, 0)] : List zz_i)),
  (141, 152, ([(141, .iload_n 3, 0, 0, 0), (142, .ifCond .le 10, 0, 0, 0), (145, .aload_n 0, 0, 0, 0), (146, .getfield 34, 10, 6, 0), (149, .invokevirtual 226, 88, 1, 6)] : List zz_i)),
  (152, 162, ([(152, .aload_n 0, 0, 0, 0), (153, .iload 4, 0, 0, 0), (155, .ifCond .eq 7, 0, 0, 0), (158, .lconst 1, 0, 0, 0), (159, .goto 4, 0, 0, 0)] : List zz_i)),
  (162, 163, ([(162, .lconst 0, 0, 0, 0)] : List zz_i)),
  (163, 176, ([(163, .aload_n 0, 0, 0, 0), (164, .getfield 27, 10, 5, 0), (167, .getfield 200, 5, 0, 1), (170, .i2l, 0, 0, 0), (171, .invokevirtual 229, 185, 3, 10), (174, .iload_n 3, 0, 0, 0), (175, .ireturn, 0, 0, 0)] : List zz_i))])
/-- 146: X11_undo undo()I  -/
def zm_146 : zz_MI := (⟨"OneStageTwoPlays", "undo", "()I"⟩, prog_1_method_14_code, 1, (some .int), [(0, 12, ([(0, .aload_n 0, 0, 0, 0), (1, .getfield 34, 10, 6, 0), (4, .aload_n 0, 0, 0, 0), (5, .getfield 27, 10, 5, 0), (8, .invokevirtual 232, 90, 2, 6), (11, .ireturn, 0, 0, 0)] : List zz_i))])
/-- 147: X11_change change(II)I  -/
def zm_147 : zz_MI := (⟨"OneStageTwoPlays", "change", "(II)I"⟩, prog_1_method_15_code, 3, (some .int), [(0, 22, ([(0, .aload_n 0, 0, 0, 0), (1, .getfield 20, 10, 4, 0), (4, .iload_n 1, 0, 0, 0), (5, .invokevirtual 137, 113, 2, 8), (8, .ifCond .eq 14, 0, 0, 0), (11, .aload_n 0, 0, 0, 0), (12, .getfield 20, 10, 4, 0), (15, .iload_n 2, 0, 0, 0), (16, .invokevirtual 137, 113, 2, 8), (19, .ifCond .ne 5, 0, 0, 0)] : List zz_i)),
  (22, 24, ([(22, .iconst (-1), 0, 0, 0), (23, .ireturn, 0, 0, 0)] : List zz_i)),
  (24, 89, ([(24, .aload_n 0, 0, 0, 0), (25, .getfield 41, 10, 7, 0), (28, .aload_n 0, 0, 0, 0), (29, .getfield 20, 10, 4, 0), (32, .invokevirtual 179, 9, 2, 1), (35, .aload_n 0, 0, 0, 0), (36, .aload_n 0, 0, 0, 0), (37, .getfield 20, 10, 4, 0), (40, .iload_n 1, 0, 0, 0), (41, .iconst 2, 0, 0, 0), (42, .invokevirtual 147, 114, 3, 8), (45, .aload_n 0, 0, 0, 0), (46, .getfield 20, 10, 4, 0), (49, .iload_n 2, 0, 0, 0), (50, .iconst 2, 0, 0, 0), (51, .invokevirtual 147, 114, 3, 8), (54, .iand, 0, 0, 0), (55, .i2l, 0, 0, 0), (56, .aload_n 0, 0, 0, 0), (57, .getfield 20, 10, 4, 0), (60, .iload_n 1, 0, 0, 0), (61, .iconst 3, 0, 0, 0), (62, .invokevirtual 147, 114, 3, 8), (65, .aload_n 0, 0, 0, 0), (66, .getfield 20, 10, 4, 0), (69, .iload_n 2, 0, 0, 0), (70, .iconst 3, 0, 0, 0), (71, .invokevirtual 147, 114, 3, 8), (74, .ixor, 0, 0, 0), (75, .i2l, 0, 0, 0), (76, .invokevirtual 229, 185, 3, 10), (79, .aload_n 0, 0, 0, 0), (80, .getfield 41, 10, 7, 0), (83, .iload_n 1, 0, 0, 0), (84, .iload_n 2, 0, 0, 0), (85, .invokevirtual 189, 10, 3, 1), (88, .ireturn, 0, 0, 0)] : List zz_i))])
/-- 148: X11_weave weave()I  -/
def zm_148 : zz_MI := (⟨"OneStageTwoPlays", "weave", "()I"⟩, prog_1_method_16_code, 2, (some .int), [(0, 29, ([(0, .aload_n 0, 0, 0, 0), (1, .aload_n 0, 0, 0, 0), (2, .getfield 41, 10, 7, 0), (5, .invokevirtual 236, 198, 2, 10), (8, .aload_n 0, 0, 0, 0), (9, .getfield 74, 10, 12, 0), (12, .invokevirtual 240, 58, 1, 4), (15, .istore_n 1, 0, 0, 0), (16, .aload_n 0, 0, 0, 0), (17, .getfield 74, 10, 12, 0), (20, .invokevirtual 243, 61, 1, 4), (23, .aload_n 0, 0, 0, 0), (24, .invokevirtual 246, 188, 1, 10), (27, .iload_n 1, 0, 0, 0), (28, .ireturn, 0, 0, 0)] : List zz_i))])
/-- 149: X11_soonest soonest(I)I  -/
def zm_149 : zz_MI := (⟨"OneStageTwoPlays", "soonest", "(I)I"⟩, prog_1_method_17_code, 4, (some .int), [(0, 9, ([(0, .iload_n 1, 0, 0, 0), (1, .invokestatic 151, 178, 1, 0), (4, .ifCond .ne 5, 0, 0, 0), (7, .iconst (-1), 0, 0, 0), (8, .ireturn, 0, 0, 0)] : List zz_i)),
  (9, 37, ([(9, .aload_n 0, 0, 0, 0), (10, .aload_n 0, 0, 0, 0), (11, .getfield 41, 10, 7, 0), (14, .invokevirtual 236, 198, 2, 10), (17, .aload_n 0, 0, 0, 0), (18, .getfield 74, 10, 12, 0), (21, .iload_n 1, 0, 0, 0), (22, .invokevirtual 249, 49, 2, 4), (25, .istore_n 2, 0, 0, 0), (26, .iload_n 2, 0, 0, 0), (27, .ifCond .ne 10, 0, 0, 0), (30, .aload_n 0, 0, 0, 0), (31, .lconst 0, 0, 0, 0), (32, .invokevirtual 252, 184, 2, 10), (35, .iconst 0, 0, 0, 0), (36, .ireturn, 0, 0, 0)] : List zz_i)),
  (37, 71, ([(37, .aload_n 0, 0, 0, 0), (38, .getfield 74, 10, 12, 0), (41, .invokevirtual 255, 68, 1, 4), (44, .aload_n 0, 0, 0, 0), (45, .getfield 74, 10, 12, 0), (48, .iload_n 1, 0, 0, 0), (49, .iload_n 2, 0, 0, 0), (50, .invokevirtual 258, 70, 3, 4), (53, .istore_n 3, 0, 0, 0), (54, .aload_n 0, 0, 0, 0), (55, .aload_n 0, 0, 0, 0), (56, .getfield 74, 10, 12, 0), (59, .iload_n 1, 0, 0, 0), (60, .iload_n 2, 0, 0, 0), (61, .iload_n 3, 0, 0, 0), (62, .invokevirtual 261, 71, 4, 4), (65, .i2l, 0, 0, 0), (66, .invokevirtual 252, 184, 2, 10), (69, .iload_n 3, 0, 0, 0), (70, .ireturn, 0, 0, 0)] : List zz_i))])
/-- 150: X11_both both(II)I  -/
def zm_150 : zz_MI := (⟨"OneStageTwoPlays", "both", "(II)I"⟩, prog_1_method_18_code, 4, (some .int), [(0, 14, ([(0, .iload_n 1, 0, 0, 0), (1, .invokestatic 265, 180, 1, 0), (4, .ifCond .eq 10, 0, 0, 0), (7, .iload_n 2, 0, 0, 0), (8, .invokestatic 265, 180, 1, 0), (11, .ifCond .ne 5, 0, 0, 0)] : List zz_i)),
  (14, 16, ([(14, .iconst (-1), 0, 0, 0), (15, .ireturn, 0, 0, 0)] : List zz_i)),
  (16, 46, ([(16, .aload_n 0, 0, 0, 0), (17, .aload_n 0, 0, 0, 0), (18, .getfield 41, 10, 7, 0), (21, .invokevirtual 236, 198, 2, 10), (24, .aload_n 0, 0, 0, 0), (25, .getfield 74, 10, 12, 0), (28, .iload_n 1, 0, 0, 0), (29, .iload_n 2, 0, 0, 0), (30, .invokevirtual 268, 65, 3, 4), (33, .istore_n 3, 0, 0, 0), (34, .aload_n 0, 0, 0, 0), (35, .invokevirtual 246, 188, 1, 10), (38, .iload_n 3, 0, 0, 0), (39, .ifCond .eq 7, 0, 0, 0), (42, .iconst 1, 0, 0, 0), (43, .goto 4, 0, 0, 0)] : List zz_i)),
  (46, 47, ([(46, .iconst 0, 0, 0, 0)] : List zz_i)),
  (47, 48, ([(47, .ireturn, 0, 0, 0)] : List zz_i))])
/-- 151: X11_within within(I)I  -/
def zm_151 : zz_MI := (⟨"OneStageTwoPlays", "within", "(I)I"⟩, prog_1_method_19_code, 6, (some .int), [(0, 9, ([(0, .iload_n 1, 0, 0, 0), (1, .invokestatic 265, 180, 1, 0), (4, .ifCond .ne 5, 0, 0, 0), (7, .iconst (-1), 0, 0, 0), (8, .ireturn, 0, 0, 0)] : List zz_i)),
  (9, 31, ([(9, .aload_n 0, 0, 0, 0), (10, .aload_n 0, 0, 0, 0), (11, .getfield 41, 10, 7, 0), (14, .invokevirtual 236, 198, 2, 10), (17, .aload_n 0, 0, 0, 0), (18, .getfield 74, 10, 12, 0), (21, .invokevirtual 255, 68, 1, 4), (24, .iconst 0, 0, 0, 0), (25, .istore_n 2, 0, 0, 0), (26, .iconst 0, 0, 0, 0), (27, .istore_n 3, 0, 0, 0), (28, .iconst 1, 0, 0, 0), (29, .istore 4, 0, 0, 0)] : List zz_i)),
  (31, 76, ([(31, .iload 4, 0, 0, 0), (33, .aload_n 0, 0, 0, 0), (34, .getfield 74, 10, 12, 0), (37, .iconst 0, 0, 0, 0), (38, .invokevirtual 249, 49, 2, 4), (41, .aload_n 0, 0, 0, 0), (42, .getfield 74, 10, 12, 0), (45, .iconst 1, 0, 0, 0), (46, .invokevirtual 249, 49, 2, 4), (49, .iadd, 0, 0, 0), (50, .if_icmp .gt 32, 0, 0, 0), (53, .aload_n 0, 0, 0, 0), (54, .getfield 74, 10, 12, 0), (57, .iload 4, 0, 0, 0), (59, .invokevirtual 271, 72, 2, 4), (62, .istore 5, 0, 0, 0), (64, .iload 5, 0, 0, 0), (66, .iload_n 1, 0, 0, 0), (67, .if_icmp .gt 9, 0, 0, 0), (70, .iload 4, 0, 0, 0), (72, .istore_n 2, 0, 0, 0), (73, .iload 5, 0, 0, 0), (75, .istore_n 3, 0, 0, 0)] : List zz_i)),
  (76, 82, ([(76, .iinc 4 1, 0, 0, 0), (79, .goto (-48), 0, 0, 0)] : List zz_i)),
  (82, 90, ([(82, .aload_n 0, 0, 0, 0), (83, .iload_n 3, 0, 0, 0), (84, .i2l, 0, 0, 0), (85, .invokevirtual 252, 184, 2, 10), (88, .iload_n 2, 0, 0, 0), (89, .ireturn, 0, 0, 0)] : List zz_i))])
/-- 152: X11_weaves weaves()I  -/
def zm_152 : zz_MI := (⟨"OneStageTwoPlays", "weaves", "()I"⟩, prog_1_method_20_code, 1, (some .int), [(0, 28, ([(0, .aload_n 0, 0, 0, 0), (1, .aload_n 0, 0, 0, 0), (2, .getfield 41, 10, 7, 0), (5, .invokevirtual 236, 198, 2, 10), (8, .aload_n 0, 0, 0, 0), (9, .aload_n 0, 0, 0, 0), (10, .getfield 74, 10, 12, 0), (13, .invokevirtual 274, 59, 1, 4), (16, .i2l, 0, 0, 0), (17, .invokevirtual 252, 184, 2, 10), (20, .aload_n 0, 0, 0, 0), (21, .getfield 74, 10, 12, 0), (24, .invokevirtual 277, 62, 1, 4), (27, .ireturn, 0, 0, 0)] : List zz_i))])
/-- 153: X11_turn turn(I)I  -/
def zm_153 : zz_MI := (⟨"OneStageTwoPlays", "turn", "(I)I"⟩, prog_1_method_21_code, 4, (some .int), [(0, 9, ([(0, .iload_n 1, 0, 0, 0), (1, .invokestatic 151, 178, 1, 0), (4, .ifCond .ne 5, 0, 0, 0), (7, .iconst (-1), 0, 0, 0), (8, .ireturn, 0, 0, 0)] : List zz_i)),
  (9, 31, ([(9, .aload_n 0, 0, 0, 0), (10, .aload_n 0, 0, 0, 0), (11, .getfield 41, 10, 7, 0), (14, .invokevirtual 236, 198, 2, 10), (17, .aload_n 0, 0, 0, 0), (18, .getfield 74, 10, 12, 0), (21, .iload_n 1, 0, 0, 0), (22, .invokevirtual 249, 49, 2, 4), (25, .ifCond .ne 6, 0, 0, 0), (28, .bipush (-2), 0, 0, 0), (30, .ireturn, 0, 0, 0)] : List zz_i)),
  (31, 58, ([(31, .aload_n 0, 0, 0, 0), (32, .getfield 74, 10, 12, 0), (35, .invokevirtual 240, 58, 1, 4), (38, .istore_n 2, 0, 0, 0), (39, .aload_n 0, 0, 0, 0), (40, .getfield 74, 10, 12, 0), (43, .iload_n 1, 0, 0, 0), (44, .invokevirtual 280, 60, 2, 4), (47, .istore_n 3, 0, 0, 0), (48, .aload_n 0, 0, 0, 0), (49, .iload_n 3, 0, 0, 0), (50, .i2l, 0, 0, 0), (51, .invokevirtual 252, 184, 2, 10), (54, .iload_n 3, 0, 0, 0), (55, .iload_n 2, 0, 0, 0), (56, .isub, 0, 0, 0), (57, .ireturn, 0, 0, 0)] : List zz_i))])
/-- 154: X11_over over(I)I  -/
def zm_154 : zz_MI := (⟨"OneStageTwoPlays", "over", "(I)I"⟩, prog_1_method_22_code, 5, (some .int), [(0, 13, ([(0, .aload_n 0, 0, 0, 0), (1, .getfield 20, 10, 4, 0), (4, .iload_n 1, 0, 0, 0), (5, .invokevirtual 137, 113, 2, 8), (8, .ifCond .ne 5, 0, 0, 0), (11, .iconst (-1), 0, 0, 0), (12, .ireturn, 0, 0, 0)] : List zz_i)),
  (13, 30, ([(13, .aload_n 0, 0, 0, 0), (14, .getfield 27, 10, 5, 0), (17, .getfield 113, 5, 2, 1), (20, .iconst 1, 0, 0, 0), (21, .iload_n 1, 0, 0, 0), (22, .ishl, 0, 0, 0), (23, .iand, 0, 0, 0), (24, .ifCond .ne 6, 0, 0, 0), (27, .bipush (-2), 0, 0, 0), (29, .ireturn, 0, 0, 0)] : List zz_i)),
  (30, 117, ([(30, .aload_n 0, 0, 0, 0), (31, .aload_n 0, 0, 0, 0), (32, .getfield 41, 10, 7, 0), (35, .invokevirtual 236, 198, 2, 10), (38, .aload_n 0, 0, 0, 0), (39, .getfield 74, 10, 12, 0), (42, .invokevirtual 255, 68, 1, 4), (45, .aload_n 0, 0, 0, 0), (46, .getfield 20, 10, 4, 0), (49, .iload_n 1, 0, 0, 0), (50, .iconst 0, 0, 0, 0), (51, .invokevirtual 147, 114, 3, 8), (54, .istore_n 2, 0, 0, 0), (55, .aload_n 0, 0, 0, 0), (56, .getfield 27, 10, 5, 0), (59, .getfield 113, 5, 2, 1), (62, .aload_n 0, 0, 0, 0), (63, .getfield 20, 10, 4, 0), (66, .iload_n 2, 0, 0, 0), (67, .invokevirtual 154, 117, 2, 8), (70, .iand, 0, 0, 0), (71, .iconst 1, 0, 0, 0), (72, .iload_n 1, 0, 0, 0), (73, .ishl, 0, 0, 0), (74, .iconst 1, 0, 0, 0), (75, .isub, 0, 0, 0), (76, .iand, 0, 0, 0), (77, .invokestatic 283, 308, 1, 0), (80, .istore_n 3, 0, 0, 0), (81, .aload_n 0, 0, 0, 0), (82, .getfield 74, 10, 12, 0), (85, .iload_n 2, 0, 0, 0), (86, .iload_n 3, 0, 0, 0), (87, .iconst 1, 0, 0, 0), (88, .iadd, 0, 0, 0), (89, .invokevirtual 258, 70, 3, 4), (92, .istore 4, 0, 0, 0), (94, .aload_n 0, 0, 0, 0), (95, .iload_n 3, 0, 0, 0), (96, .aload_n 0, 0, 0, 0), (97, .getfield 74, 10, 12, 0), (100, .iload_n 2, 0, 0, 0), (101, .iload_n 3, 0, 0, 0), (102, .iconst 1, 0, 0, 0), (103, .iadd, 0, 0, 0), (104, .iload 4, 0, 0, 0), (106, .invokevirtual 261, 71, 4, 4), (109, .iadd, 0, 0, 0), (110, .i2l, 0, 0, 0), (111, .invokevirtual 252, 184, 2, 10), (114, .iload 4, 0, 0, 0), (116, .ireturn, 0, 0, 0)] : List zz_i))])
/-- 155: X11_cuts cuts(I)I  -/
def zm_155 : zz_MI := (⟨"OneStageTwoPlays", "cuts", "(I)I"⟩, prog_1_method_23_code, 3, (some .int), [(0, 9, ([(0, .iload_n 1, 0, 0, 0), (1, .invokestatic 265, 180, 1, 0), (4, .ifCond .ne 5, 0, 0, 0), (7, .iconst (-1), 0, 0, 0), (8, .ireturn, 0, 0, 0)] : List zz_i)),
  (9, 55, ([(9, .aload_n 0, 0, 0, 0), (10, .aload_n 0, 0, 0, 0), (11, .getfield 41, 10, 7, 0), (14, .invokevirtual 236, 198, 2, 10), (17, .aload_n 0, 0, 0, 0), (18, .getfield 74, 10, 12, 0), (21, .aload_n 0, 0, 0, 0), (22, .getfield 27, 10, 5, 0), (25, .getfield 113, 5, 2, 1), (28, .iload_n 1, 0, 0, 0), (29, .invokevirtual 288, 73, 3, 4), (32, .istore_n 2, 0, 0, 0), (33, .aload_n 0, 0, 0, 0), (34, .aload_n 0, 0, 0, 0), (35, .getfield 74, 10, 12, 0), (38, .getfield 291, 4, 10, 1), (41, .i2l, 0, 0, 0), (42, .aload_n 0, 0, 0, 0), (43, .getfield 74, 10, 12, 0), (46, .getfield 294, 4, 11, 1), (49, .i2l, 0, 0, 0), (50, .invokevirtual 229, 185, 3, 10), (53, .iload_n 2, 0, 0, 0), (54, .ireturn, 0, 0, 0)] : List zz_i))])
/-- 156: X11_clash clash()I  -/
def zm_156 : zz_MI := (⟨"OneStageTwoPlays", "clash", "()I"⟩, prog_1_method_24_code, 2, (some .int), [(0, 35, ([(0, .aload_n 0, 0, 0, 0), (1, .getfield 83, 10, 13, 0), (4, .aload_n 0, 0, 0, 0), (5, .getfield 27, 10, 5, 0), (8, .getfield 113, 5, 2, 1), (11, .invokevirtual 297, 124, 2, 9), (14, .istore_n 1, 0, 0, 0), (15, .aload_n 0, 0, 0, 0), (16, .iload_n 1, 0, 0, 0), (17, .invokestatic 283, 308, 1, 0), (20, .i2l, 0, 0, 0), (21, .aload_n 0, 0, 0, 0), (22, .getfield 83, 10, 13, 0), (25, .iload_n 1, 0, 0, 0), (26, .invokevirtual 300, 125, 2, 9), (29, .i2l, 0, 0, 0), (30, .invokevirtual 229, 185, 3, 10), (33, .iload_n 1, 0, 0, 0), (34, .ireturn, 0, 0, 0)] : List zz_i))])
/-- 157: X11_mend mend()I  -/
def zm_157 : zz_MI := (⟨"OneStageTwoPlays", "mend", "()I"⟩, prog_1_method_25_code, 4, (some .int), [(0, 69, ([(0, .aload_n 0, 0, 0, 0), (1, .getfield 83, 10, 13, 0), (4, .aload_n 0, 0, 0, 0), (5, .getfield 27, 10, 5, 0), (8, .getfield 113, 5, 2, 1), (11, .invokevirtual 297, 124, 2, 9), (14, .istore_n 1, 0, 0, 0), (15, .aload_n 0, 0, 0, 0), (16, .getfield 83, 10, 13, 0), (19, .iload_n 1, 0, 0, 0), (20, .aload_n 0, 0, 0, 0), (21, .getfield 20, 10, 4, 0), (24, .iconst 0, 0, 0, 0), (25, .invokevirtual 154, 117, 2, 8), (28, .iand, 0, 0, 0), (29, .invokevirtual 303, 126, 2, 9), (32, .istore_n 2, 0, 0, 0), (33, .aload_n 0, 0, 0, 0), (34, .getfield 83, 10, 13, 0), (37, .iload_n 1, 0, 0, 0), (38, .aload_n 0, 0, 0, 0), (39, .getfield 20, 10, 4, 0), (42, .iconst 1, 0, 0, 0), (43, .invokevirtual 154, 117, 2, 8), (46, .iand, 0, 0, 0), (47, .invokevirtual 303, 126, 2, 9), (50, .istore_n 3, 0, 0, 0), (51, .aload_n 0, 0, 0, 0), (52, .iload_n 2, 0, 0, 0), (53, .i2l, 0, 0, 0), (54, .iload_n 3, 0, 0, 0), (55, .i2l, 0, 0, 0), (56, .invokevirtual 229, 185, 3, 10), (59, .iload_n 2, 0, 0, 0), (60, .invokestatic 283, 308, 1, 0), (63, .iload_n 3, 0, 0, 0), (64, .invokestatic 283, 308, 1, 0), (67, .iadd, 0, 0, 0), (68, .ireturn, 0, 0, 0)] : List zz_i))])
/-- 158: X11_spare spare()I  -/
def zm_158 : zz_MI := (⟨"OneStageTwoPlays", "spare", "()I"⟩, prog_1_method_26_code, 2, (some .int), [(0, 19, ([(0, .aload_n 0, 0, 0, 0), (1, .getfield 83, 10, 13, 0), (4, .invokevirtual 306, 127, 1, 9), (7, .istore_n 1, 0, 0, 0), (8, .aload_n 0, 0, 0, 0), (9, .iload_n 1, 0, 0, 0), (10, .invokestatic 283, 308, 1, 0), (13, .i2l, 0, 0, 0), (14, .invokevirtual 252, 184, 2, 10), (17, .iload_n 1, 0, 0, 0), (18, .ireturn, 0, 0, 0)] : List zz_i))])
/-- 159: X11_cheers cheers(I)I  -/
def zm_159 : zz_MI := (⟨"OneStageTwoPlays", "cheers", "(I)I"⟩, prog_1_method_27_code, 3, (some .int), [(0, 9, ([(0, .iload_n 1, 0, 0, 0), (1, .invokestatic 151, 178, 1, 0), (4, .ifCond .ne 5, 0, 0, 0), (7, .iconst (-1), 0, 0, 0), (8, .ireturn, 0, 0, 0)] : List zz_i)),
  (9, 33, ([(9, .aload_n 0, 0, 0, 0), (10, .getfield 83, 10, 13, 0), (13, .iload_n 1, 0, 0, 0), (14, .invokevirtual 309, 128, 2, 9), (17, .istore_n 2, 0, 0, 0), (18, .aload_n 0, 0, 0, 0), (19, .aload_n 0, 0, 0, 0), (20, .getfield 83, 10, 13, 0), (23, .iload_n 1, 0, 0, 0), (24, .invokevirtual 312, 130, 2, 9), (27, .i2l, 0, 0, 0), (28, .invokevirtual 252, 184, 2, 10), (31, .iload_n 2, 0, 0, 0), (32, .ireturn, 0, 0, 0)] : List zz_i))])
/-- 160: X11_who who(I)I  -/
def zm_160 : zz_MI := (⟨"OneStageTwoPlays", "who", "(I)I"⟩, prog_1_method_28_code, 3, (some .int), [(0, 9, ([(0, .iload_n 1, 0, 0, 0), (1, .invokestatic 315, 179, 1, 0), (4, .ifCond .ne 5, 0, 0, 0), (7, .iconst (-1), 0, 0, 0), (8, .ireturn, 0, 0, 0)] : List zz_i)),
  (9, 54, ([(9, .aload_n 0, 0, 0, 0), (10, .getfield 90, 10, 14, 0), (13, .iconst 1, 0, 0, 0), (14, .iload_n 1, 0, 0, 0), (15, .ishl, 0, 0, 0), (16, .invokevirtual 318, 16, 2, 2), (19, .istore_n 2, 0, 0, 0), (20, .aload_n 0, 0, 0, 0), (21, .iload_n 2, 0, 0, 0), (22, .aload_n 0, 0, 0, 0), (23, .getfield 20, 10, 4, 0), (26, .iconst 0, 0, 0, 0), (27, .invokevirtual 154, 117, 2, 8), (30, .iand, 0, 0, 0), (31, .invokestatic 283, 308, 1, 0), (34, .i2l, 0, 0, 0), (35, .iload_n 2, 0, 0, 0), (36, .aload_n 0, 0, 0, 0), (37, .getfield 20, 10, 4, 0), (40, .iconst 1, 0, 0, 0), (41, .invokevirtual 154, 117, 2, 8), (44, .iand, 0, 0, 0), (45, .invokestatic 283, 308, 1, 0), (48, .i2l, 0, 0, 0), (49, .invokevirtual 229, 185, 3, 10), (52, .iload_n 2, 0, 0, 0), (53, .ireturn, 0, 0, 0)] : List zz_i))])
/-- 161: X11_kings kings()I  -/
def zm_161 : zz_MI := (⟨"OneStageTwoPlays", "kings", "()I"⟩, prog_1_method_29_code, 3, (some .int), [(0, 88, ([(0, .aload_n 0, 0, 0, 0), (1, .getfield 20, 10, 4, 0), (4, .aload_n 0, 0, 0, 0), (5, .getfield 27, 10, 5, 0), (8, .getfield 113, 5, 2, 1), (11, .aload_n 0, 0, 0, 0), (12, .getfield 20, 10, 4, 0), (15, .iconst 0, 0, 0, 0), (16, .invokevirtual 154, 117, 2, 8), (19, .iand, 0, 0, 0), (20, .iconst 2, 0, 0, 0), (21, .invokevirtual 321, 119, 3, 8), (24, .aload_n 0, 0, 0, 0), (25, .getfield 20, 10, 4, 0), (28, .aload_n 0, 0, 0, 0), (29, .getfield 27, 10, 5, 0), (32, .getfield 113, 5, 2, 1), (35, .aload_n 0, 0, 0, 0), (36, .getfield 20, 10, 4, 0), (39, .iconst 1, 0, 0, 0), (40, .invokevirtual 154, 117, 2, 8), (43, .iand, 0, 0, 0), (44, .iconst 2, 0, 0, 0), (45, .invokevirtual 321, 119, 3, 8), (48, .iand, 0, 0, 0), (49, .istore_n 1, 0, 0, 0), (50, .aload_n 0, 0, 0, 0), (51, .getfield 27, 10, 5, 0), (54, .getfield 113, 5, 2, 1), (57, .aload_n 0, 0, 0, 0), (58, .getfield 90, 10, 14, 0), (61, .iload_n 1, 0, 0, 0), (62, .invokevirtual 318, 16, 2, 2), (65, .iand, 0, 0, 0), (66, .istore_n 2, 0, 0, 0), (67, .aload_n 0, 0, 0, 0), (68, .iload_n 1, 0, 0, 0), (69, .invokestatic 283, 308, 1, 0), (72, .i2l, 0, 0, 0), (73, .aload_n 0, 0, 0, 0), (74, .getfield 20, 10, 4, 0), (77, .iload_n 2, 0, 0, 0), (78, .iconst 1, 0, 0, 0), (79, .invokevirtual 172, 118, 3, 8), (82, .i2l, 0, 0, 0), (83, .invokevirtual 229, 185, 3, 10), (86, .iload_n 1, 0, 0, 0), (87, .ireturn, 0, 0, 0)] : List zz_i))])
/-- 162: X11_stand stand()I  -/
def zm_162 : zz_MI := (⟨"OneStageTwoPlays", "stand", "()I"⟩, prog_1_method_30_code, 1, (some .int), [(0, 40, ([(0, .aload_n 0, 0, 0, 0), (1, .bipush 15, 0, 0, 0), (3, .aload_n 0, 0, 0, 0), (4, .getfield 20, 10, 4, 0), (7, .aload_n 0, 0, 0, 0), (8, .getfield 27, 10, 5, 0), (11, .getfield 113, 5, 2, 1), (14, .iconst 3, 0, 0, 0), (15, .invokevirtual 321, 119, 3, 8), (18, .iconst (-1), 0, 0, 0), (19, .ixor, 0, 0, 0), (20, .iand, 0, 0, 0), (21, .i2l, 0, 0, 0), (22, .invokevirtual 252, 184, 2, 10), (25, .aload_n 0, 0, 0, 0), (26, .getfield 90, 10, 14, 0), (29, .aload_n 0, 0, 0, 0), (30, .getfield 27, 10, 5, 0), (33, .getfield 113, 5, 2, 1), (36, .invokevirtual 324, 17, 2, 2), (39, .ireturn, 0, 0, 0)] : List zz_i))])
/-- 163: X11_guard guard()I  -/
def zm_163 : zz_MI := (⟨"OneStageTwoPlays", "guard", "()I"⟩, prog_1_method_31_code, 2, (some .int), [(0, 26, ([(0, .aload_n 0, 0, 0, 0), (1, .getfield 90, 10, 14, 0), (4, .aload_n 0, 0, 0, 0), (5, .getfield 27, 10, 5, 0), (8, .getfield 113, 5, 2, 1), (11, .invokevirtual 327, 18, 2, 2), (14, .istore_n 1, 0, 0, 0), (15, .aload_n 0, 0, 0, 0), (16, .iload_n 1, 0, 0, 0), (17, .i2l, 0, 0, 0), (18, .invokevirtual 252, 184, 2, 10), (21, .iload_n 1, 0, 0, 0), (22, .invokestatic 283, 308, 1, 0), (25, .ireturn, 0, 0, 0)] : List zz_i))])
/-- 164: X11_chance chance(II)I  -/
def zm_164 : zz_MI := (⟨"OneStageTwoPlays", "chance", "(II)I"⟩, prog_1_method_32_code, 9, (some .int), [(0, 17, ([(0, .iload_n 1, 0, 0, 0), (1, .invokestatic 151, 178, 1, 0), (4, .ifCond .eq 13, 0, 0, 0), (7, .iload_n 2, 0, 0, 0), (8, .ifCond .lt 9, 0, 0, 0), (11, .iload_n 2, 0, 0, 0), (12, .bipush 10, 0, 0, 0), (14, .if_icmp .le 5, 0, 0, 0)] : List zz_i)),
  (17, 19, ([(17, .iconst (-1), 0, 0, 0), (18, .ireturn, 0, 0, 0)] : List zz_i)),
  (19, 53, ([(19, .aload_n 0, 0, 0, 0), (20, .getfield 20, 10, 4, 0), (23, .aload_n 0, 0, 0, 0), (24, .getfield 27, 10, 5, 0), (27, .getfield 113, 5, 2, 1), (30, .aload_n 0, 0, 0, 0), (31, .getfield 20, 10, 4, 0), (34, .iload_n 1, 0, 0, 0), (35, .invokevirtual 154, 117, 2, 8), (38, .iand, 0, 0, 0), (39, .iconst 2, 0, 0, 0), (40, .invokevirtual 321, 119, 3, 8), (43, .istore_n 3, 0, 0, 0), (44, .lconst 1, 0, 0, 0), (45, .lstore 4, 0, 0, 0), (47, .lconst 1, 0, 0, 0), (48, .lstore 6, 0, 0, 0), (50, .iconst 0, 0, 0, 0), (51, .istore 8, 0, 0, 0)] : List zz_i)),
  (53, 86, ([(53, .iload 8, 0, 0, 0), (55, .iload_n 3, 0, 0, 0), (56, .invokestatic 283, 308, 1, 0), (59, .if_icmp .ge 27, 0, 0, 0), (62, .lload 4, 0, 0, 0), (64, .bipush 10, 0, 0, 0), (66, .iload_n 2, 0, 0, 0), (67, .isub, 0, 0, 0), (68, .i2l, 0, 0, 0), (69, .lmul, 0, 0, 0), (70, .lstore 4, 0, 0, 0), (72, .lload 6, 0, 0, 0), (74, .ldc2_w 330, 10, 0, 0), (77, .lmul, 0, 0, 0), (78, .lstore 6, 0, 0, 0), (80, .iinc 8 1, 0, 0, 0), (83, .goto (-30), 0, 0, 0)] : List zz_i)),
  (86, 96, ([(86, .aload_n 0, 0, 0, 0), (87, .lload 4, 0, 0, 0), (89, .lload 6, 0, 0, 0), (91, .invokevirtual 332, 189, 3, 10), (94, .iconst 0, 0, 0, 0), (95, .ireturn, 0, 0, 0)] : List zz_i))])
/-- 165: X11_likely likely(I)I  -/
def zm_165 : zz_MI := (⟨"OneStageTwoPlays", "likely", "(I)I"⟩, prog_1_method_33_code, 3, (some .int), [(0, 10, ([(0, .iload_n 1, 0, 0, 0), (1, .ifCond .lt 9, 0, 0, 0), (4, .iload_n 1, 0, 0, 0), (5, .bipush 10, 0, 0, 0), (7, .if_icmp .le 5, 0, 0, 0)] : List zz_i)),
  (10, 12, ([(10, .iconst (-1), 0, 0, 0), (11, .ireturn, 0, 0, 0)] : List zz_i)),
  (12, 58, ([(12, .aload_n 0, 0, 0, 0), (13, .getfield 90, 10, 14, 0), (16, .aload_n 0, 0, 0, 0), (17, .getfield 27, 10, 5, 0), (20, .getfield 113, 5, 2, 1), (23, .iload_n 1, 0, 0, 0), (24, .invokevirtual 335, 19, 3, 2), (27, .aload_n 0, 0, 0, 0), (28, .getfield 90, 10, 14, 0), (31, .invokevirtual 339, 21, 1, 2), (34, .istore_n 2, 0, 0, 0), (35, .aload_n 0, 0, 0, 0), (36, .aload_n 0, 0, 0, 0), (37, .getfield 90, 10, 14, 0), (40, .iload_n 2, 0, 0, 0), (41, .invokevirtual 342, 22, 2, 2), (44, .i2l, 0, 0, 0), (45, .aload_n 0, 0, 0, 0), (46, .getfield 90, 10, 14, 0), (49, .invokevirtual 345, 23, 1, 2), (52, .i2l, 0, 0, 0), (53, .invokevirtual 332, 189, 3, 10), (56, .iload_n 2, 0, 0, 0), (57, .ireturn, 0, 0, 0)] : List zz_i))])
/-- 166: X11_rests rests(I)I  -/
def zm_166 : zz_MI := (⟨"OneStageTwoPlays", "rests", "(I)I"⟩, prog_1_method_34_code, 5, (some .int), [(0, 10, ([(0, .iload_n 1, 0, 0, 0), (1, .ifCond .lt 9, 0, 0, 0), (4, .iload_n 1, 0, 0, 0), (5, .bipush 20, 0, 0, 0), (7, .if_icmp .le 5, 0, 0, 0)] : List zz_i)),
  (10, 12, ([(10, .iconst (-1), 0, 0, 0), (11, .ireturn, 0, 0, 0)] : List zz_i)),
  (12, 16, ([(12, .iconst 0, 0, 0, 0), (13, .istore_n 2, 0, 0, 0), (14, .iconst 0, 0, 0, 0), (15, .istore_n 3, 0, 0, 0)] : List zz_i)),
  (16, 24, ([(16, .iload_n 3, 0, 0, 0), (17, .iload_n 1, 0, 0, 0), (18, .if_icmp .gt 55, 0, 0, 0), (21, .iconst 0, 0, 0, 0), (22, .istore 4, 0, 0, 0)] : List zz_i)),
  (24, 61, ([(24, .iload 4, 0, 0, 0), (26, .iload_n 1, 0, 0, 0), (27, .if_icmp .gt 40, 0, 0, 0), (30, .aload_n 0, 0, 0, 0), (31, .getfield 90, 10, 14, 0), (34, .iload_n 1, 0, 0, 0), (35, .iload_n 3, 0, 0, 0), (36, .iload 4, 0, 0, 0), (38, .invokevirtual 348, 25, 4, 2), (41, .ifCond .eq 20, 0, 0, 0), (44, .iinc 2 1, 0, 0, 0), (47, .iload_n 2, 0, 0, 0), (48, .iconst 1, 0, 0, 0), (49, .if_icmp .ne 12, 0, 0, 0), (52, .aload_n 0, 0, 0, 0), (53, .iload_n 3, 0, 0, 0), (54, .i2l, 0, 0, 0), (55, .iload 4, 0, 0, 0), (57, .i2l, 0, 0, 0), (58, .invokevirtual 229, 185, 3, 10)] : List zz_i)),
  (61, 67, ([(61, .iinc 4 1, 0, 0, 0), (64, .goto (-40), 0, 0, 0)] : List zz_i)),
  (67, 73, ([(67, .iinc 3 1, 0, 0, 0), (70, .goto (-54), 0, 0, 0)] : List zz_i)),
  (73, 75, ([(73, .iload_n 2, 0, 0, 0), (74, .ireturn, 0, 0, 0)] : List zz_i))])
/-- 167: X11_lamps lamps(I)I  -/
def zm_167 : zz_MI := (⟨"OneStageTwoPlays", "lamps", "(I)I"⟩, prog_1_method_35_code, 2, (some .int), [(0, 11, ([(0, .iload_n 1, 0, 0, 0), (1, .iconst 1, 0, 0, 0), (2, .if_icmp .lt 9, 0, 0, 0), (5, .iload_n 1, 0, 0, 0), (6, .bipush 40, 0, 0, 0), (8, .if_icmp .le 5, 0, 0, 0)] : List zz_i)),
  (11, 13, ([(11, .iconst (-1), 0, 0, 0), (12, .ireturn, 0, 0, 0)] : List zz_i)),
  (13, 46, ([(13, .aload_n 0, 0, 0, 0), (14, .getfield 90, 10, 14, 0), (17, .iload_n 1, 0, 0, 0), (18, .invokevirtual 352, 26, 2, 2), (21, .aload_n 0, 0, 0, 0), (22, .aload_n 0, 0, 0, 0), (23, .getfield 90, 10, 14, 0), (26, .iload_n 1, 0, 0, 0), (27, .invokevirtual 355, 29, 2, 2), (30, .i2l, 0, 0, 0), (31, .invokevirtual 252, 184, 2, 10), (34, .bipush 100, 0, 0, 0), (36, .aload_n 0, 0, 0, 0), (37, .getfield 90, 10, 14, 0), (40, .iload_n 1, 0, 0, 0), (41, .invokevirtual 358, 27, 2, 2), (44, .iadd, 0, 0, 0), (45, .ireturn, 0, 0, 0)] : List zz_i))])
/-- 168: X11_bow bow(II)I  -/
def zm_168 : zz_MI := (⟨"OneStageTwoPlays", "bow", "(II)I"⟩, prog_1_method_36_code, 4, (some .int), [(0, 16, ([(0, .iload_n 1, 0, 0, 0), (1, .invokestatic 315, 179, 1, 0), (4, .ifCond .eq 12, 0, 0, 0), (7, .iload_n 2, 0, 0, 0), (8, .ifCond .lt 8, 0, 0, 0), (11, .iload_n 2, 0, 0, 0), (12, .iconst 1, 0, 0, 0), (13, .if_icmp .le 5, 0, 0, 0)] : List zz_i)),
  (16, 18, ([(16, .iconst (-1), 0, 0, 0), (17, .ireturn, 0, 0, 0)] : List zz_i)),
  (18, 47, ([(18, .iconst 1, 0, 0, 0), (19, .iload_n 1, 0, 0, 0), (20, .ishl, 0, 0, 0), (21, .istore_n 3, 0, 0, 0), (22, .aload_n 0, 0, 0, 0), (23, .dup, 0, 0, 0), (24, .getfield 361, 10, 15, 0), (27, .iload_n 3, 0, 0, 0), (28, .ior, 0, 0, 0), (29, .putfield 361, 10, 15, 0), (32, .aload_n 0, 0, 0, 0), (33, .iload_n 2, 0, 0, 0), (34, .iconst 1, 0, 0, 0), (35, .if_icmp .ne 12, 0, 0, 0), (38, .aload_n 0, 0, 0, 0), (39, .getfield 364, 10, 16, 0), (42, .iload_n 3, 0, 0, 0), (43, .ior, 0, 0, 0), (44, .goto 11, 0, 0, 0)] : List zz_i)),
  (47, 55, ([(47, .aload_n 0, 0, 0, 0), (48, .getfield 364, 10, 16, 0), (51, .iload_n 3, 0, 0, 0), (52, .iconst (-1), 0, 0, 0), (53, .ixor, 0, 0, 0), (54, .iand, 0, 0, 0)] : List zz_i)),
  (55, 66, ([(55, .putfield 364, 10, 16, 0), (58, .aload_n 0, 0, 0, 0), (59, .getfield 361, 10, 15, 0), (62, .invokestatic 283, 308, 1, 0), (65, .ireturn, 0, 0, 0)] : List zz_i))])
/-- 169: X11_forget forget()I  -/
def zm_169 : zz_MI := (⟨"OneStageTwoPlays", "forget", "()I"⟩, prog_1_method_37_code, 2, (some .int), [(0, 20, ([(0, .aload_n 0, 0, 0, 0), (1, .getfield 361, 10, 15, 0), (4, .invokestatic 283, 308, 1, 0), (7, .istore_n 1, 0, 0, 0), (8, .aload_n 0, 0, 0, 0), (9, .iconst 0, 0, 0, 0), (10, .putfield 361, 10, 15, 0), (13, .aload_n 0, 0, 0, 0), (14, .iconst 0, 0, 0, 0), (15, .putfield 364, 10, 16, 0), (18, .iload_n 1, 0, 0, 0), (19, .ireturn, 0, 0, 0)] : List zz_i))])
/-- 170: X11_fits fits()I  -/
def zm_170 : zz_MI := (⟨"OneStageTwoPlays", "fits", "()I"⟩, prog_1_method_38_code, 2, (some .int), [(0, 41, ([(0, .aload_n 0, 0, 0, 0), (1, .getfield 90, 10, 14, 0), (4, .aload_n 0, 0, 0, 0), (5, .getfield 361, 10, 15, 0), (8, .aload_n 0, 0, 0, 0), (9, .getfield 364, 10, 16, 0), (12, .invokevirtual 367, 30, 3, 2), (15, .istore_n 1, 0, 0, 0), (16, .aload_n 0, 0, 0, 0), (17, .iload_n 1, 0, 0, 0), (18, .invokestatic 283, 308, 1, 0), (21, .i2l, 0, 0, 0), (22, .iload_n 1, 0, 0, 0), (23, .aload_n 0, 0, 0, 0), (24, .getfield 20, 10, 4, 0), (27, .iconst 0, 0, 0, 0), (28, .invokevirtual 154, 117, 2, 8), (31, .iand, 0, 0, 0), (32, .invokestatic 283, 308, 1, 0), (35, .i2l, 0, 0, 0), (36, .invokevirtual 229, 185, 3, 10), (39, .iload_n 1, 0, 0, 0), (40, .ireturn, 0, 0, 0)] : List zz_i))])
/-- 171: X11_ask ask()I  -/
def zm_171 : zz_MI := (⟨"OneStageTwoPlays", "ask", "()I"⟩, prog_1_method_39_code, 6, (some .int), [(0, 23, ([(0, .aload_n 0, 0, 0, 0), (1, .getfield 90, 10, 14, 0), (4, .aload_n 0, 0, 0, 0), (5, .getfield 361, 10, 15, 0), (8, .aload_n 0, 0, 0, 0), (9, .getfield 364, 10, 16, 0), (12, .invokevirtual 367, 30, 3, 2), (15, .istore_n 1, 0, 0, 0), (16, .iload_n 1, 0, 0, 0), (17, .ifCond .ne 6, 0, 0, 0), (20, .bipush (-2), 0, 0, 0), (22, .ireturn, 0, 0, 0)] : List zz_i)),
  (23, 38, ([(23, .iconst 0, 0, 0, 0), (24, .istore_n 2, 0, 0, 0), (25, .aload_n 0, 0, 0, 0), (26, .getfield 90, 10, 14, 0), (29, .iload_n 1, 0, 0, 0), (30, .iconst 0, 0, 0, 0), (31, .invokevirtual 370, 31, 3, 2), (34, .istore_n 3, 0, 0, 0), (35, .iconst 1, 0, 0, 0), (36, .istore 4, 0, 0, 0)] : List zz_i)),
  (38, 69, ([(38, .iload 4, 0, 0, 0), (40, .bipush 6, 0, 0, 0), (42, .if_icmp .ge 33, 0, 0, 0), (45, .aload_n 0, 0, 0, 0), (46, .getfield 90, 10, 14, 0), (49, .iload_n 1, 0, 0, 0), (50, .iload 4, 0, 0, 0), (52, .invokevirtual 370, 31, 3, 2), (55, .istore 5, 0, 0, 0), (57, .iload 5, 0, 0, 0), (59, .iload_n 3, 0, 0, 0), (60, .if_icmp .ge 9, 0, 0, 0), (63, .iload 4, 0, 0, 0), (65, .istore_n 2, 0, 0, 0), (66, .iload 5, 0, 0, 0), (68, .istore_n 3, 0, 0, 0)] : List zz_i)),
  (69, 75, ([(69, .iinc 4 1, 0, 0, 0), (72, .goto (-34), 0, 0, 0)] : List zz_i)),
  (75, 83, ([(75, .aload_n 0, 0, 0, 0), (76, .iload_n 3, 0, 0, 0), (77, .i2l, 0, 0, 0), (78, .invokevirtual 252, 184, 2, 10), (81, .iload_n 2, 0, 0, 0), (82, .ireturn, 0, 0, 0)] : List zz_i))])
/-- 172: X11_law law()I  -/
def zm_172 : zz_MI := (⟨"OneStageTwoPlays", "law", "()I"⟩, prog_1_method_40_code, 4, (some .int), [(0, 19, ([(0, .aload_n 0, 0, 0, 0), (1, .invokevirtual 102, 182, 1, 10), (4, .istore_n 1, 0, 0, 0), (5, .iload_n 1, 0, 0, 0), (6, .ifCond .ne 13, 0, 0, 0), (9, .aload_n 0, 0, 0, 0), (10, .getfield 45, 10, 8, 0), (13, .invokevirtual 129, 5, 1, 1), (16, .goto 40, 0, 0, 0)] : List zz_i)),
  (19, 45, ([(19, .aload_n 0, 0, 0, 0), (20, .getfield 60, 10, 10, 0), (23, .aload_n 0, 0, 0, 0), (24, .getfield 9, 10, 0, 0), (27, .iload_n 1, 0, 0, 0), (28, .bipush 40, 0, 0, 0), (30, .invokevirtual 132, 313, 4, 7), (33, .istore_n 2, 0, 0, 0), (34, .iload_n 2, 0, 0, 0), (35, .iconst (-1), 0, 0, 0), (36, .if_icmp .eq 9, 0, 0, 0), (39, .sipush (-10000), 0, 0, 0), (42, .iload_n 2, 0, 0, 0), (43, .isub, 0, 0, 0), (44, .ireturn, 0, 0, 0)] : List zz_i)),
  (45, 56, ([(45, .aload_n 0, 0, 0, 0), (46, .getfield 45, 10, 8, 0), (49, .aload_n 0, 0, 0, 0), (50, .getfield 60, 10, 10, 0), (53, .invokevirtual 133, 6, 2, 1)] : List zz_i)),
  (56, 100, ([(56, .aload_n 0, 0, 0, 0), (57, .aload_n 0, 0, 0, 0), (58, .getfield 45, 10, 8, 0), (61, .invokevirtual 236, 198, 2, 10), (64, .aload_n 0, 0, 0, 0), (65, .getfield 74, 10, 12, 0), (68, .invokevirtual 240, 58, 1, 4), (71, .istore_n 2, 0, 0, 0), (72, .aload_n 0, 0, 0, 0), (73, .aload_n 0, 0, 0, 0), (74, .getfield 41, 10, 7, 0), (77, .invokevirtual 236, 198, 2, 10), (80, .aload_n 0, 0, 0, 0), (81, .getfield 74, 10, 12, 0), (84, .invokevirtual 240, 58, 1, 4), (87, .istore_n 3, 0, 0, 0), (88, .aload_n 0, 0, 0, 0), (89, .iload_n 2, 0, 0, 0), (90, .i2l, 0, 0, 0), (91, .iload_n 3, 0, 0, 0), (92, .i2l, 0, 0, 0), (93, .invokevirtual 229, 185, 3, 10), (96, .iload_n 2, 0, 0, 0), (97, .iload_n 3, 0, 0, 0), (98, .isub, 0, 0, 0), (99, .ireturn, 0, 0, 0)] : List zz_i))])
/-- 173: X11_years years(II)I  -/
def zm_173 : zz_MI := (⟨"OneStageTwoPlays", "years", "(II)I"⟩, prog_1_method_41_code, 7, (some .int), [(0, 11, ([(0, .iload_n 2, 0, 0, 0), (1, .iconst 1, 0, 0, 0), (2, .if_icmp .lt 9, 0, 0, 0), (5, .iload_n 2, 0, 0, 0), (6, .bipush 60, 0, 0, 0), (8, .if_icmp .le 5, 0, 0, 0)] : List zz_i)),
  (11, 13, ([(11, .iconst (-1), 0, 0, 0), (12, .ireturn, 0, 0, 0)] : List zz_i)),
  (13, 43, ([(13, .aload_n 0, 0, 0, 0), (14, .getfield 41, 10, 7, 0), (17, .aload_n 0, 0, 0, 0), (18, .getfield 20, 10, 4, 0), (21, .invokevirtual 179, 9, 2, 1), (24, .aload_n 0, 0, 0, 0), (25, .getfield 34, 10, 6, 0), (28, .aload_n 0, 0, 0, 0), (29, .getfield 27, 10, 5, 0), (32, .invokevirtual 216, 87, 2, 6), (35, .iload_n 1, 0, 0, 0), (36, .istore_n 3, 0, 0, 0), (37, .iconst 0, 0, 0, 0), (38, .istore 4, 0, 0, 0), (40, .iconst 0, 0, 0, 0), (41, .istore 5, 0, 0, 0)] : List zz_i)),
  (43, 89, ([(43, .iload 5, 0, 0, 0), (45, .iload_n 2, 0, 0, 0), (46, .if_icmp .ge 74, 0, 0, 0), (49, .iload_n 3, 0, 0, 0), (50, .ldc_w 373, 1103515245, 0, 0), (53, .imul, 0, 0, 0), (54, .sipush 12345, 0, 0, 0), (57, .iadd, 0, 0, 0), (58, .istore_n 3, 0, 0, 0), (59, .iload_n 3, 0, 0, 0), (60, .bipush 16, 0, 0, 0), (62, .iushr, 0, 0, 0), (63, .iconst 4, 0, 0, 0), (64, .irem, 0, 0, 0), (65, .istore 6, 0, 0, 0), (67, .iload 6, 0, 0, 0), (69, .iconst 3, 0, 0, 0), (70, .if_icmp .ne 19, 0, 0, 0), (73, .aload_n 0, 0, 0, 0), (74, .getfield 27, 10, 5, 0), (77, .dup, 0, 0, 0), (78, .getfield 200, 5, 0, 1), (81, .iconst 1, 0, 0, 0), (82, .iadd, 0, 0, 0), (83, .putfield 200, 5, 0, 1), (86, .goto 28, 0, 0, 0)] : List zz_i)),
  (89, 103, ([(89, .aload_n 0, 0, 0, 0), (90, .iload 6, 0, 0, 0), (92, .iconst 2, 0, 0, 0), (93, .if_icmp .ne 10, 0, 0, 0), (96, .aload_n 0, 0, 0, 0), (97, .invokevirtual 374, 191, 1, 10), (100, .goto 5, 0, 0, 0)] : List zz_i)),
  (103, 105, ([(103, .iload 6, 0, 0, 0)] : List zz_i)),
  (105, 114, ([(105, .invokevirtual 377, 193, 2, 10), (108, .ifCond .eq 6, 0, 0, 0), (111, .iinc 4 1, 0, 0, 0)] : List zz_i)),
  (114, 120, ([(114, .iinc 5 1, 0, 0, 0), (117, .goto (-74), 0, 0, 0)] : List zz_i)),
  (120, 168, ([(120, .aload_n 0, 0, 0, 0), (121, .getfield 27, 10, 5, 0), (124, .getfield 200, 5, 0, 1), (127, .istore 5, 0, 0, 0), (129, .aload_n 0, 0, 0, 0), (130, .iload 4, 0, 0, 0), (132, .i2l, 0, 0, 0), (133, .aload_n 0, 0, 0, 0), (134, .getfield 27, 10, 5, 0), (137, .iconst 0, 0, 0, 0), (138, .invokevirtual 166, 80, 2, 5), (141, .aload_n 0, 0, 0, 0), (142, .getfield 27, 10, 5, 0), (145, .iconst 1, 0, 0, 0), (146, .invokevirtual 166, 80, 2, 5), (149, .iadd, 0, 0, 0), (150, .i2l, 0, 0, 0), (151, .invokevirtual 229, 185, 3, 10), (154, .aload_n 0, 0, 0, 0), (155, .getfield 34, 10, 6, 0), (158, .aload_n 0, 0, 0, 0), (159, .getfield 27, 10, 5, 0), (162, .invokevirtual 380, 89, 2, 6), (165, .iload 5, 0, 0, 0), (167, .ireturn, 0, 0, 0)] : List zz_i))])
/-- 174: X11_keep keep(I)Z  -/
def zm_174 : zz_MI := (⟨"OneStageTwoPlays", "keep", "(I)Z"⟩, prog_1_method_42_code, 2, (some .boolean), [(0, 9, ([(0, .iload_n 1, 0, 0, 0), (1, .ifCond .lt 8, 0, 0, 0), (4, .iload_n 1, 0, 0, 0), (5, .iconst 2, 0, 0, 0), (6, .if_icmp .lt 5, 0, 0, 0)] : List zz_i)),
  (9, 11, ([(9, .iconst 0, 0, 0, 0), (10, .ireturn, 0, 0, 0)] : List zz_i)),
  (11, 25, ([(11, .aload_n 0, 0, 0, 0), (12, .getfield 34, 10, 6, 0), (15, .iload_n 1, 0, 0, 0), (16, .aload_n 0, 0, 0, 0), (17, .getfield 27, 10, 5, 0), (20, .invokevirtual 383, 94, 3, 6), (23, .iconst 1, 0, 0, 0), (24, .ireturn, 0, 0, 0)] : List zz_i))])
/-- 175: X11_again again(I)Z  -/
def zm_175 : zz_MI := (⟨"OneStageTwoPlays", "again", "(I)Z"⟩, prog_1_method_43_code, 2, (some .boolean), [(0, 13, ([(0, .aload_n 0, 0, 0, 0), (1, .getfield 34, 10, 6, 0), (4, .iload_n 1, 0, 0, 0), (5, .invokevirtual 387, 93, 2, 6), (8, .ifCond .ne 5, 0, 0, 0), (11, .iconst 0, 0, 0, 0), (12, .ireturn, 0, 0, 0)] : List zz_i)),
  (13, 34, ([(13, .aload_n 0, 0, 0, 0), (14, .getfield 34, 10, 6, 0), (17, .iload_n 1, 0, 0, 0), (18, .aload_n 0, 0, 0, 0), (19, .getfield 27, 10, 5, 0), (22, .invokevirtual 390, 95, 3, 6), (25, .aload_n 0, 0, 0, 0), (26, .getfield 34, 10, 6, 0), (29, .invokevirtual 123, 91, 1, 6), (32, .iconst 1, 0, 0, 0), (33, .ireturn, 0, 0, 0)] : List zz_i))])
/-- 176: X11_count count(I)I  -/
def zm_176 : zz_MI := (⟨"OneStageTwoPlays", "count", "(I)I"⟩, prog_1_method_44_code, 2, (some .int), [(0, 60, ([(0, .iload_n 1, 0, 0, 0), (1, .tableswitch 148 0 10 #[59, 67, 75, 83, 91, 99, 107, 125, 130, 138, 143], 0, 0, 59)] : List zz_i)),
  (60, 68, ([(60, .aload_n 0, 0, 0, 0), (61, .getfield 20, 10, 4, 0), (64, .getfield 393, 8, 2, 1), (67, .ireturn, 0, 0, 0)] : List zz_i)),
  (68, 76, ([(68, .aload_n 0, 0, 0, 0), (69, .getfield 27, 10, 5, 0), (72, .getfield 200, 5, 0, 1), (75, .ireturn, 0, 0, 0)] : List zz_i)),
  (76, 84, ([(76, .aload_n 0, 0, 0, 0), (77, .getfield 27, 10, 5, 0), (80, .getfield 186, 5, 1, 1), (83, .ireturn, 0, 0, 0)] : List zz_i)),
  (84, 92, ([(84, .aload_n 0, 0, 0, 0), (85, .getfield 27, 10, 5, 0), (88, .getfield 113, 5, 2, 1), (91, .ireturn, 0, 0, 0)] : List zz_i)),
  (92, 100, ([(92, .aload_n 0, 0, 0, 0), (93, .getfield 27, 10, 5, 0), (96, .getfield 157, 5, 3, 1), (99, .ireturn, 0, 0, 0)] : List zz_i)),
  (100, 108, ([(100, .aload_n 0, 0, 0, 0), (101, .getfield 27, 10, 5, 0), (104, .getfield 160, 5, 4, 1), (107, .ireturn, 0, 0, 0)] : List zz_i)),
  (108, 126, ([(108, .aload_n 0, 0, 0, 0), (109, .getfield 27, 10, 5, 0), (112, .iconst 0, 0, 0, 0), (113, .invokevirtual 166, 80, 2, 5), (116, .aload_n 0, 0, 0, 0), (117, .getfield 27, 10, 5, 0), (120, .iconst 1, 0, 0, 0), (121, .invokevirtual 166, 80, 2, 5), (124, .iadd, 0, 0, 0), (125, .ireturn, 0, 0, 0)] : List zz_i)),
  (126, 131, ([(126, .aload_n 0, 0, 0, 0), (127, .getfield 361, 10, 15, 0), (130, .ireturn, 0, 0, 0)] : List zz_i)),
  (131, 139, ([(131, .aload_n 0, 0, 0, 0), (132, .getfield 34, 10, 6, 0), (135, .getfield 396, 6, 5, 1), (138, .ireturn, 0, 0, 0)] : List zz_i)),
  (139, 144, ([(139, .aload_n 0, 0, 0, 0), (140, .getfield 397, 10, 3, 0), (143, .ireturn, 0, 0, 0)] : List zz_i)),
  (144, 149, ([(144, .aload_n 0, 0, 0, 0), (145, .getfield 94, 10, 1, 0), (148, .ireturn, 0, 0, 0)] : List zz_i)),
  (149, 152, ([(149, .bipush (-100), 0, 0, 0), (151, .ireturn, 0, 0, 0)] : List zz_i))])
/-- 177: X11_row row(I)J  -/
def zm_177 : zz_MI := (⟨"OneStageTwoPlays", "row", "(I)J"⟩, prog_1_method_45_code, 2, (some .long), [(0, 21, ([(0, .iload_n 1, 0, 0, 0), (1, .ifCond .lt 20, 0, 0, 0), (4, .iload_n 1, 0, 0, 0), (5, .aload_n 0, 0, 0, 0), (6, .getfield 397, 10, 3, 0), (9, .if_icmp .ge 12, 0, 0, 0), (12, .iload_n 1, 0, 0, 0), (13, .aload_n 0, 0, 0, 0), (14, .getfield 13, 10, 2, 0), (17, .arraylength, 0, 0, 0), (18, .if_icmp .lt 11, 0, 0, 0)] : List zz_i)),
  (21, 29, ([(21, .new 141, 99, 0, 0), (24, .dup, 0, 0, 0), (25, .invokespecial 143, 998, 1, 0), (28, .athrow, 0, 0, 0)] : List zz_i)),
  (29, 36, ([(29, .aload_n 0, 0, 0, 0), (30, .getfield 13, 10, 2, 0), (33, .iload_n 1, 0, 0, 0), (34, .laload, 0, 0, 0), (35, .lreturn, 0, 0, 0)] : List zz_i))])
/-- 178: X11_isPlay isPlay(I)Z  -/
def zm_178 : zz_MI := (⟨"OneStageTwoPlays", "isPlay", "(I)Z"⟩, prog_1_method_46_code, 1, (some .boolean), [(0, 9, ([(0, .iload_n 0, 0, 0, 0), (1, .ifCond .eq 8, 0, 0, 0), (4, .iload_n 0, 0, 0, 0), (5, .iconst 1, 0, 0, 0), (6, .if_icmp .ne 7, 0, 0, 0)] : List zz_i)),
  (9, 13, ([(9, .iconst 1, 0, 0, 0), (10, .goto 4, 0, 0, 0)] : List zz_i)),
  (13, 14, ([(13, .iconst 0, 0, 0, 0)] : List zz_i)),
  (14, 15, ([(14, .ireturn, 0, 0, 0)] : List zz_i))])
/-- 179: X11_isPerson isPerson(I)Z  -/
def zm_179 : zz_MI := (⟨"OneStageTwoPlays", "isPerson", "(I)Z"⟩, prog_1_method_47_code, 1, (some .boolean), [(0, 14, ([(0, .iload_n 0, 0, 0, 0), (1, .ifCond .lt 13, 0, 0, 0), (4, .iload_n 0, 0, 0, 0), (5, .bipush 6, 0, 0, 0), (7, .if_icmp .ge 7, 0, 0, 0), (10, .iconst 1, 0, 0, 0), (11, .goto 4, 0, 0, 0)] : List zz_i)),
  (14, 15, ([(14, .iconst 0, 0, 0, 0)] : List zz_i)),
  (15, 16, ([(15, .ireturn, 0, 0, 0)] : List zz_i))])
/-- 180: X11_isHour isHour(I)Z  -/
def zm_180 : zz_MI := (⟨"OneStageTwoPlays", "isHour", "(I)Z"⟩, prog_1_method_48_code, 1, (some .boolean), [(0, 15, ([(0, .iload_n 0, 0, 0, 0), (1, .ifCond .lt 14, 0, 0, 0), (4, .iload_n 0, 0, 0, 0), (5, .sipush 199, 0, 0, 0), (8, .if_icmp .gt 7, 0, 0, 0), (11, .iconst 1, 0, 0, 0), (12, .goto 4, 0, 0, 0)] : List zz_i)),
  (15, 16, ([(15, .iconst 0, 0, 0, 0)] : List zz_i)),
  (16, 17, ([(16, .ireturn, 0, 0, 0)] : List zz_i))])
/-- 181: X11_addSign addSign(I)V  -/
def zm_181 : zz_MI := (⟨"OneStageTwoPlays", "addSign", "(I)V"⟩, prog_1_method_49_code, 2, none, [(0, 40, ([(0, .aload_n 0, 0, 0, 0), (1, .getfield 94, 10, 1, 0), (4, .ifCond .lt 36, 0, 0, 0), (7, .aload_n 0, 0, 0, 0), (8, .getfield 94, 10, 1, 0), (11, .aload_n 0, 0, 0, 0), (12, .getfield 9, 10, 0, 0), (15, .arraylength, 0, 0, 0), (16, .if_icmp .ge 24, 0, 0, 0), (19, .aload_n 0, 0, 0, 0), (20, .getfield 9, 10, 0, 0), (23, .aload_n 0, 0, 0, 0), (24, .getfield 94, 10, 1, 0), (27, .iload_n 1, 0, 0, 0), (28, .i2c, 0, 0, 0), (29, .castore, 0, 0, 0), (30, .aload_n 0, 0, 0, 0), (31, .dup, 0, 0, 0), (32, .getfield 94, 10, 1, 0), (35, .iconst 1, 0, 0, 0), (36, .iadd, 0, 0, 0), (37, .putfield 94, 10, 1, 0)] : List zz_i)),
  (40, 41, ([(40, .return_, 0, 0, 0)] : List zz_i))])
/-- 182: X11_takeText takeText()I  -/
def zm_182 : zz_MI := (⟨"OneStageTwoPlays", "takeText", "()I"⟩, prog_1_method_50_code, 2, (some .int), [(0, 12, ([(0, .aload_n 0, 0, 0, 0), (1, .getfield 94, 10, 1, 0), (4, .istore_n 1, 0, 0, 0), (5, .aload_n 0, 0, 0, 0), (6, .iconst 0, 0, 0, 0), (7, .putfield 94, 10, 1, 0), (10, .iload_n 1, 0, 0, 0), (11, .ireturn, 0, 0, 0)] : List zz_i))])
/-- 183: X11_signAt signAt(I)I  -/
def zm_183 : zz_MI := (⟨"OneStageTwoPlays", "signAt", "(I)I"⟩, prog_1_method_51_code, 2, (some .int), [(0, 22, ([(0, .iload_n 1, 0, 0, 0), (1, .ifCond .lt 21, 0, 0, 0), (4, .iload_n 1, 0, 0, 0), (5, .aload_n 0, 0, 0, 0), (6, .getfield 9, 10, 0, 0), (9, .arraylength, 0, 0, 0), (10, .if_icmp .ge 12, 0, 0, 0), (13, .aload_n 0, 0, 0, 0), (14, .getfield 9, 10, 0, 0), (17, .iload_n 1, 0, 0, 0), (18, .caload, 0, 0, 0), (19, .goto 4, 0, 0, 0)] : List zz_i)),
  (22, 23, ([(22, .iconst 0, 0, 0, 0)] : List zz_i)),
  (23, 24, ([(23, .ireturn, 0, 0, 0)] : List zz_i))])
/-- 184: X11_tell tell(J)V  -/
def zm_184 : zz_MI := (⟨"OneStageTwoPlays", "tell", "(J)V"⟩, prog_1_method_52_code, 3, none, [(0, 11, ([(0, .aload_n 0, 0, 0, 0), (1, .iconst 0, 0, 0, 0), (2, .putfield 397, 10, 3, 0), (5, .aload_n 0, 0, 0, 0), (6, .lload_n 1, 0, 0, 0), (7, .invokevirtual 400, 187, 2, 10), (10, .return_, 0, 0, 0)] : List zz_i))])
/-- 185: X11_tell_ tell(JJ)V  -/
def zm_185 : zz_MI := (⟨"OneStageTwoPlays", "tell", "(JJ)V"⟩, prog_1_method_53_code, 5, none, [(0, 11, ([(0, .aload_n 0, 0, 0, 0), (1, .lload_n 1, 0, 0, 0), (2, .invokevirtual 252, 184, 2, 10), (5, .aload_n 0, 0, 0, 0), (6, .lload_n 3, 0, 0, 0), (7, .invokevirtual 400, 187, 2, 10), (10, .return_, 0, 0, 0)] : List zz_i))])
/-- 186: X11_tell__ tell(JJJ)V  -/
def zm_186 : zz_MI := (⟨"OneStageTwoPlays", "tell", "(JJJ)V"⟩, prog_1_method_54_code, 7, none, [(0, 13, ([(0, .aload_n 0, 0, 0, 0), (1, .lload_n 1, 0, 0, 0), (2, .lload_n 3, 0, 0, 0), (3, .invokevirtual 229, 185, 3, 10), (6, .aload_n 0, 0, 0, 0), (7, .lload 5, 0, 0, 0), (9, .invokevirtual 400, 187, 2, 10), (12, .return_, 0, 0, 0)] : List zz_i))])
/-- 187: X11_addNumber addNumber(J)V  -/
def zm_187 : zz_MI := (⟨"OneStageTwoPlays", "addNumber", "(J)V"⟩, prog_1_method_55_code, 3, none, [(0, 39, ([(0, .aload_n 0, 0, 0, 0), (1, .getfield 397, 10, 3, 0), (4, .ifCond .lt 35, 0, 0, 0), (7, .aload_n 0, 0, 0, 0), (8, .getfield 397, 10, 3, 0), (11, .aload_n 0, 0, 0, 0), (12, .getfield 13, 10, 2, 0), (15, .arraylength, 0, 0, 0), (16, .if_icmp .ge 23, 0, 0, 0), (19, .aload_n 0, 0, 0, 0), (20, .getfield 13, 10, 2, 0), (23, .aload_n 0, 0, 0, 0), (24, .getfield 397, 10, 3, 0), (27, .lload_n 1, 0, 0, 0), (28, .lastore, 0, 0, 0), (29, .aload_n 0, 0, 0, 0), (30, .dup, 0, 0, 0), (31, .getfield 397, 10, 3, 0), (34, .iconst 1, 0, 0, 0), (35, .iadd, 0, 0, 0), (36, .putfield 397, 10, 3, 0)] : List zz_i)),
  (39, 40, ([(39, .return_, 0, 0, 0)] : List zz_i))])
/-- 188: X11_tellTurns tellTurns()V  -/
def zm_188 : zz_MI := (⟨"OneStageTwoPlays", "tellTurns", "()V"⟩, prog_1_method_56_code, 2, none, [(0, 7, ([(0, .aload_n 0, 0, 0, 0), (1, .iconst 0, 0, 0, 0), (2, .putfield 397, 10, 3, 0), (5, .iconst 0, 0, 0, 0), (6, .istore_n 1, 0, 0, 0)] : List zz_i)),
  (7, 37, ([(7, .iload_n 1, 0, 0, 0), (8, .aload_n 0, 0, 0, 0), (9, .getfield 74, 10, 12, 0), (12, .getfield 403, 4, 5, 1), (15, .if_icmp .ge 22, 0, 0, 0), (18, .aload_n 0, 0, 0, 0), (19, .aload_n 0, 0, 0, 0), (20, .getfield 74, 10, 12, 0), (23, .iload_n 1, 0, 0, 0), (24, .invokevirtual 406, 50, 2, 4), (27, .i2l, 0, 0, 0), (28, .invokevirtual 400, 187, 2, 10), (31, .iinc 1 1, 0, 0, 0), (34, .goto (-27), 0, 0, 0)] : List zz_i)),
  (37, 38, ([(37, .return_, 0, 0, 0)] : List zz_i))])
/-- 189: X11_tellFraction tellFraction(JJ)V  -/
def zm_189 : zz_MI := (⟨"OneStageTwoPlays", "tellFraction", "(JJ)V"⟩, prog_1_method_57_code, 12, none, [(0, 9, ([(0, .lload_n 1, 0, 0, 0), (1, .lstore 5, 0, 0, 0), (3, .lload_n 3, 0, 0, 0), (4, .lstore 7, 0, 0, 0), (6, .iconst 0, 0, 0, 0), (7, .istore 9, 0, 0, 0)] : List zz_i)),
  (9, 44, ([(9, .iload 9, 0, 0, 0), (11, .bipush 100, 0, 0, 0), (13, .if_icmp .ge 31, 0, 0, 0), (16, .lload 7, 0, 0, 0), (18, .lconst 0, 0, 0, 0), (19, .lcmp, 0, 0, 0), (20, .ifCond .eq 24, 0, 0, 0), (23, .lload 5, 0, 0, 0), (25, .lload 7, 0, 0, 0), (27, .lrem, 0, 0, 0), (28, .lstore 10, 0, 0, 0), (30, .lload 7, 0, 0, 0), (32, .lstore 5, 0, 0, 0), (34, .lload 10, 0, 0, 0), (36, .lstore 7, 0, 0, 0), (38, .iinc 9 1, 0, 0, 0), (41, .goto (-32), 0, 0, 0)] : List zz_i)),
  (44, 60, ([(44, .lload 5, 0, 0, 0), (46, .lconst 0, 0, 0, 0), (47, .lcmp, 0, 0, 0), (48, .ifCond .ne 12, 0, 0, 0), (51, .aload_n 0, 0, 0, 0), (52, .lload_n 1, 0, 0, 0), (53, .lload_n 3, 0, 0, 0), (54, .invokevirtual 229, 185, 3, 10), (57, .goto 15, 0, 0, 0)] : List zz_i)),
  (60, 72, ([(60, .aload_n 0, 0, 0, 0), (61, .lload_n 1, 0, 0, 0), (62, .lload 5, 0, 0, 0), (64, .ldiv, 0, 0, 0), (65, .lload_n 3, 0, 0, 0), (66, .lload 5, 0, 0, 0), (68, .ldiv, 0, 0, 0), (69, .invokevirtual 229, 185, 3, 10)] : List zz_i)),
  (72, 73, ([(72, .return_, 0, 0, 0)] : List zz_i))])
/-- 190: X11_nextOf nextOf(I)I  -/
def zm_190 : zz_MI := (⟨"OneStageTwoPlays", "nextOf", "(I)I"⟩, prog_1_method_58_code, 3, (some .int), [(0, 25, ([(0, .aload_n 0, 0, 0, 0), (1, .getfield 27, 10, 5, 0), (4, .getfield 113, 5, 2, 1), (7, .aload_n 0, 0, 0, 0), (8, .getfield 20, 10, 4, 0), (11, .iload_n 1, 0, 0, 0), (12, .invokevirtual 154, 117, 2, 8), (15, .iand, 0, 0, 0), (16, .istore_n 2, 0, 0, 0), (17, .iload_n 2, 0, 0, 0), (18, .ifCond .ne 7, 0, 0, 0), (21, .iconst (-1), 0, 0, 0), (22, .goto 7, 0, 0, 0)] : List zz_i)),
  (25, 29, ([(25, .iload_n 2, 0, 0, 0), (26, .invokestatic 409, 307, 1, 0)] : List zz_i)),
  (29, 30, ([(29, .ireturn, 0, 0, 0)] : List zz_i))])
/-- 191: X11_playNotLast playNotLast()I  -/
def zm_191 : zz_MI := (⟨"OneStageTwoPlays", "playNotLast", "()I"⟩, prog_1_method_59_code, 1, (some .int), [(0, 37, ([(0, .aload_n 0, 0, 0, 0), (1, .getfield 20, 10, 4, 0), (4, .aload_n 0, 0, 0, 0), (5, .getfield 27, 10, 5, 0), (8, .getfield 186, 5, 1, 1), (11, .invokevirtual 137, 113, 2, 8), (14, .ifCond .eq 23, 0, 0, 0), (17, .iconst 1, 0, 0, 0), (18, .aload_n 0, 0, 0, 0), (19, .getfield 20, 10, 4, 0), (22, .aload_n 0, 0, 0, 0), (23, .getfield 27, 10, 5, 0), (26, .getfield 186, 5, 1, 1), (29, .iconst 0, 0, 0, 0), (30, .invokevirtual 147, 114, 3, 8), (33, .isub, 0, 0, 0), (34, .goto 4, 0, 0, 0)] : List zz_i)),
  (37, 38, ([(37, .iconst 0, 0, 0, 0)] : List zz_i)),
  (38, 39, ([(38, .ireturn, 0, 0, 0)] : List zz_i))])
/-- 192: X11_comingBeside comingBeside(I)I  -/
def zm_192 : zz_MI := (⟨"OneStageTwoPlays", "comingBeside", "(I)I"⟩, prog_1_method_60_code, 2, (some .int), [(0, 28, ([(0, .aload_n 0, 0, 0, 0), (1, .getfield 27, 10, 5, 0), (4, .getfield 113, 5, 2, 1), (7, .aload_n 0, 0, 0, 0), (8, .getfield 20, 10, 4, 0), (11, .aload_n 0, 0, 0, 0), (12, .getfield 20, 10, 4, 0), (15, .iload_n 1, 0, 0, 0), (16, .iconst 0, 0, 0, 0), (17, .invokevirtual 147, 114, 3, 8), (20, .invokevirtual 154, 117, 2, 8), (23, .iand, 0, 0, 0), (24, .invokestatic 283, 308, 1, 0), (27, .ireturn, 0, 0, 0)] : List zz_i))])
/-- 193: X11_performNext performNext(I)Z  -/
def zm_193 : zz_MI := (⟨"OneStageTwoPlays", "performNext", "(I)Z"⟩, prog_1_method_61_code, 3, (some .boolean), [(0, 13, ([(0, .aload_n 0, 0, 0, 0), (1, .iload_n 1, 0, 0, 0), (2, .invokevirtual 169, 190, 2, 10), (5, .istore_n 2, 0, 0, 0), (6, .iload_n 2, 0, 0, 0), (7, .iconst (-1), 0, 0, 0), (8, .if_icmp .ne 5, 0, 0, 0), (11, .iconst 0, 0, 0, 0), (12, .ireturn, 0, 0, 0)] : List zz_i)),
  (13, 43, ([(13, .aload_n 0, 0, 0, 0), (14, .getfield 27, 10, 5, 0), (17, .aload_n 0, 0, 0, 0), (18, .getfield 20, 10, 4, 0), (21, .iload_n 2, 0, 0, 0), (22, .aload_n 0, 0, 0, 0), (23, .getfield 41, 10, 7, 0), (26, .aload_n 0, 0, 0, 0), (27, .getfield 27, 10, 5, 0), (30, .getfield 186, 5, 1, 1), (33, .iload_n 2, 0, 0, 0), (34, .invokevirtual 189, 10, 3, 1), (37, .invokevirtual 192, 84, 4, 5), (40, .pop, 0, 0, 0), (41, .iconst 1, 0, 0, 0), (42, .ireturn, 0, 0, 0)] : List zz_i))])
/-- 194: X11_refusalToDrop refusalToDrop(I)I  -/
def zm_194 : zz_MI := (⟨"OneStageTwoPlays", "refusalToDrop", "(I)I"⟩, prog_1_method_62_code, 2, (some .int), [(0, 13, ([(0, .aload_n 0, 0, 0, 0), (1, .getfield 20, 10, 4, 0), (4, .iload_n 1, 0, 0, 0), (5, .invokevirtual 137, 113, 2, 8), (8, .ifCond .ne 5, 0, 0, 0), (11, .iconst (-1), 0, 0, 0), (12, .ireturn, 0, 0, 0)] : List zz_i)),
  (13, 32, ([(13, .aload_n 0, 0, 0, 0), (14, .getfield 27, 10, 5, 0), (17, .getfield 113, 5, 2, 1), (20, .iconst 1, 0, 0, 0), (21, .iload_n 1, 0, 0, 0), (22, .ishl, 0, 0, 0), (23, .iand, 0, 0, 0), (24, .ifCond .ne 8, 0, 0, 0), (27, .bipush (-2), 0, 0, 0), (29, .goto 4, 0, 0, 0)] : List zz_i)),
  (32, 33, ([(32, .iconst 0, 0, 0, 0)] : List zz_i)),
  (33, 34, ([(33, .ireturn, 0, 0, 0)] : List zz_i))])
/-- 195: X11_act act(II)Z  -/
def zm_195 : zz_MI := (⟨"OneStageTwoPlays", "act", "(II)Z"⟩, prog_1_method_63_code, 5, (some .boolean), [(0, 24, ([(0, .iload_n 1, 0, 0, 0), (1, .bipush 119, 0, 0, 0), (3, .if_icmp .ne 21, 0, 0, 0), (6, .aload_n 0, 0, 0, 0), (7, .getfield 27, 10, 5, 0), (10, .dup, 0, 0, 0), (11, .getfield 200, 5, 0, 1), (14, .iload_n 2, 0, 0, 0), (15, .bipush 48, 0, 0, 0), (17, .isub, 0, 0, 0), (18, .iadd, 0, 0, 0), (19, .putfield 200, 5, 0, 1), (22, .iconst 1, 0, 0, 0), (23, .ireturn, 0, 0, 0)] : List zz_i)),
  (24, 47, ([(24, .iload_n 1, 0, 0, 0), (25, .bipush 120, 0, 0, 0), (27, .if_icmp .ne 39, 0, 0, 0), (30, .iload_n 2, 0, 0, 0), (31, .bipush 97, 0, 0, 0), (33, .isub, 0, 0, 0), (34, .istore_n 3, 0, 0, 0), (35, .aload_n 0, 0, 0, 0), (36, .iload_n 3, 0, 0, 0), (37, .invokevirtual 203, 194, 2, 10), (40, .ifCond .ne 7, 0, 0, 0), (43, .iconst 1, 0, 0, 0), (44, .goto 4, 0, 0, 0)] : List zz_i)),
  (47, 48, ([(47, .iconst 0, 0, 0, 0)] : List zz_i)),
  (48, 63, ([(48, .istore 4, 0, 0, 0), (50, .iload 4, 0, 0, 0), (52, .ifCond .eq 11, 0, 0, 0), (55, .aload_n 0, 0, 0, 0), (56, .getfield 27, 10, 5, 0), (59, .iload_n 3, 0, 0, 0), (60, .invokevirtual 206, 82, 2, 5)] : List zz_i)),
  (63, 66, ([(63, .iload 4, 0, 0, 0), (65, .ireturn, 0, 0, 0)] : List zz_i)),
  (66, 75, ([(66, .aload_n 0, 0, 0, 0), (67, .iload_n 1, 0, 0, 0), (68, .bipush 48, 0, 0, 0), (70, .isub, 0, 0, 0), (71, .invokevirtual 377, 193, 2, 10), (74, .ireturn, 0, 0, 0)] : List zz_i))])
/-- 196: X11_setMinutes setMinutes(IIII)I  -/
def zm_196 : zz_MI := (⟨"OneStageTwoPlays", "setMinutes", "(IIII)I"⟩, prog_1_method_64_code, 8, (some .int), [(0, 6, ([(0, .iconst 0, 0, 0, 0), (1, .istore 5, 0, 0, 0), (3, .iconst 0, 0, 0, 0), (4, .istore 6, 0, 0, 0)] : List zz_i)),
  (6, 49, ([(6, .iload 6, 0, 0, 0), (8, .aload_n 0, 0, 0, 0), (9, .getfield 20, 10, 4, 0), (12, .getfield 393, 8, 2, 1), (15, .if_icmp .ge 59, 0, 0, 0), (18, .iconst 1, 0, 0, 0), (19, .istore 7, 0, 0, 0), (21, .iload 6, 0, 0, 0), (23, .iload_n 2, 0, 0, 0), (24, .if_icmp .ge 25, 0, 0, 0), (27, .iconst 1, 0, 0, 0), (28, .bipush 9, 0, 0, 0), (30, .iload_n 1, 0, 0, 0), (31, .iload_n 3, 0, 0, 0), (32, .iload 6, 0, 0, 0), (34, .iload 4, 0, 0, 0), (36, .imul, 0, 0, 0), (37, .iadd, 0, 0, 0), (38, .invokestatic 412, 197, 2, 0), (41, .invokestatic 415, 310, 2, 0), (44, .invokestatic 420, 309, 2, 0), (47, .istore 7, 0, 0, 0)] : List zz_i)),
  (49, 74, ([(49, .aload_n 0, 0, 0, 0), (50, .getfield 20, 10, 4, 0), (53, .iload 6, 0, 0, 0), (55, .iconst 1, 0, 0, 0), (56, .iload 7, 0, 0, 0), (58, .invokevirtual 423, 115, 4, 8), (61, .iload 5, 0, 0, 0), (63, .iload 7, 0, 0, 0), (65, .iadd, 0, 0, 0), (66, .istore 5, 0, 0, 0), (68, .iinc 6 1, 0, 0, 0), (71, .goto (-65), 0, 0, 0)] : List zz_i)),
  (74, 84, ([(74, .aload_n 0, 0, 0, 0), (75, .getfield 41, 10, 7, 0), (78, .invokevirtual 120, 8, 1, 1), (81, .iload 5, 0, 0, 0), (83, .ireturn, 0, 0, 0)] : List zz_i))])
/-- 197: X11_entry entry(II)I  -/
def zm_197 : zz_MI := (⟨"OneStageTwoPlays", "entry", "(II)I"⟩, prog_1_method_65_code, 2, (some .int), [(0, 28, ([(0, .iload_n 0, 0, 0, 0), (1, .lookupswitch 33 #[(0, 27), (1, 30)], 0, 0, 27)] : List zz_i)),
  (28, 31, ([(28, .iload_n 1, 0, 0, 0), (29, .i2b, 0, 0, 0), (30, .ireturn, 0, 0, 0)] : List zz_i)),
  (31, 34, ([(31, .iload_n 1, 0, 0, 0), (32, .i2s, 0, 0, 0), (33, .ireturn, 0, 0, 0)] : List zz_i)),
  (34, 36, ([(34, .iload_n 1, 0, 0, 0), (35, .ireturn, 0, 0, 0)] : List zz_i))])
/-- 198: X11_readyLoom readyLoom(LOneStageTwoPlays$Changes;)V  -/
def zm_198 : zz_MI := (⟨"OneStageTwoPlays", "readyLoom", "(LOneStageTwoPlays$Changes;)V"⟩, prog_1_method_66_code, 2, none, [(0, 38, ([(0, .aload_n 1, 0, 0, 0), (1, .aload_n 0, 0, 0, 0), (2, .getfield 20, 10, 4, 0), (5, .invokevirtual 179, 9, 2, 1), (8, .aload_n 0, 0, 0, 0), (9, .getfield 74, 10, 12, 0), (12, .aload_n 1, 0, 0, 0), (13, .aload_n 0, 0, 0, 0), (14, .getfield 27, 10, 5, 0), (17, .getfield 186, 5, 1, 1), (20, .invokevirtual 427, 46, 3, 4), (23, .aload_n 0, 0, 0, 0), (24, .getfield 74, 10, 12, 0), (27, .aload_n 0, 0, 0, 0), (28, .getfield 27, 10, 5, 0), (31, .getfield 113, 5, 2, 1), (34, .invokevirtual 431, 47, 2, 4), (37, .return_, 0, 0, 0)] : List zz_i))])
/-- 199: X12_init <init>()V  -/
def zm_199 : zz_MI := (⟨"OneStageTwoPlaysModel", "<init>", "()V"⟩, prog_14_method_1_code, 1, none, [(0, 252, ([(0, .aload_n 0, 0, 0, 0), (1, .invokespecial 3, 999, 1, 0), (4, .aload_n 0, 0, 0, 0), (5, .bipush 18, 0, 0, 0), (7, .newarray .int, 0, 0, 0), (9, .putfield 9, 11, 0, 0), (12, .aload_n 0, 0, 0, 0), (13, .bipush 84, 0, 0, 0), (15, .newarray .int, 0, 0, 0), (17, .putfield 13, 11, 2, 0), (20, .aload_n 0, 0, 0, 0), (21, .bipush 80, 0, 0, 0), (23, .newarray .byte, 0, 0, 0), (25, .putfield 16, 11, 3, 0), (28, .aload_n 0, 0, 0, 0), (29, .bipush 20, 0, 0, 0), (31, .newarray .long, 0, 0, 0), (33, .putfield 20, 11, 5, 0), (36, .aload_n 0, 0, 0, 0), (37, .bipush 84, 0, 0, 0), (39, .newarray .int, 0, 0, 0), (41, .putfield 24, 11, 13, 0), (44, .aload_n 0, 0, 0, 0), (45, .bipush 40, 0, 0, 0), (47, .newarray .byte, 0, 0, 0), (49, .putfield 27, 11, 14, 0), (52, .aload_n 0, 0, 0, 0), (53, .bipush 40, 0, 0, 0), (55, .newarray .byte, 0, 0, 0), (57, .putfield 30, 11, 15, 0), (60, .aload_n 0, 0, 0, 0), (61, .bipush 6, 0, 0, 0), (63, .newarray .int, 0, 0, 0), (65, .putfield 33, 11, 18, 0), (68, .aload_n 0, 0, 0, 0), (69, .sipush 216, 0, 0, 0), (72, .newarray .int, 0, 0, 0), (74, .putfield 36, 11, 19, 0), (77, .aload_n 0, 0, 0, 0), (78, .bipush 18, 0, 0, 0), (80, .newarray .int, 0, 0, 0), (82, .putfield 39, 11, 21, 0), (85, .aload_n 0, 0, 0, 0), (86, .bipush 18, 0, 0, 0), (88, .newarray .int, 0, 0, 0), (90, .putfield 42, 11, 22, 0), (93, .aload_n 0, 0, 0, 0), (94, .sipush 160, 0, 0, 0), (97, .newarray .int, 0, 0, 0), (99, .putfield 45, 11, 23, 0), (102, .aload_n 0, 0, 0, 0), (103, .bipush 12, 0, 0, 0), (105, .newarray .int, 0, 0, 0), (107, .putfield 48, 11, 24, 0), (110, .aload_n 0, 0, 0, 0), (111, .bipush 12, 0, 0, 0), (113, .newarray .int, 0, 0, 0), (115, .putfield 51, 11, 25, 0), (118, .aload_n 0, 0, 0, 0), (119, .iconst 2, 0, 0, 0), (120, .newarray .int, 0, 0, 0), (122, .putfield 54, 11, 26, 0), (125, .aload_n 0, 0, 0, 0), (126, .bipush 13, 0, 0, 0), (128, .newarray .int, 0, 0, 0), (130, .putfield 57, 11, 27, 0), (133, .aload_n 0, 0, 0, 0), (134, .iconst 2, 0, 0, 0), (135, .newarray .int, 0, 0, 0), (137, .putfield 60, 11, 31, 0), (140, .aload_n 0, 0, 0, 0), (141, .bipush 12, 0, 0, 0), (143, .newarray .int, 0, 0, 0), (145, .putfield 63, 11, 32, 0), (148, .aload_n 0, 0, 0, 0), (149, .bipush 12, 0, 0, 0), (151, .newarray .int, 0, 0, 0), (153, .putfield 66, 11, 33, 0), (156, .aload_n 0, 0, 0, 0), (157, .iconst 2, 0, 0, 0), (158, .newarray .int, 0, 0, 0), (160, .putfield 69, 11, 34, 0), (163, .aload_n 0, 0, 0, 0), (164, .bipush 12, 0, 0, 0), (166, .newarray .int, 0, 0, 0), (168, .putfield 72, 11, 36, 0), (171, .aload_n 0, 0, 0, 0), (172, .sipush 507, 0, 0, 0), (175, .newarray .int, 0, 0, 0), (177, .putfield 75, 11, 37, 0), (180, .aload_n 0, 0, 0, 0), (181, .bipush 12, 0, 0, 0), (183, .newarray .int, 0, 0, 0), (185, .putfield 78, 11, 38, 0), (188, .aload_n 0, 0, 0, 0), (189, .bipush 12, 0, 0, 0), (191, .newarray .int, 0, 0, 0), (193, .putfield 81, 11, 39, 0), (196, .aload_n 0, 0, 0, 0), (197, .sipush 4096, 0, 0, 0), (200, .newarray .int, 0, 0, 0), (202, .putfield 84, 11, 40, 0), (205, .aload_n 0, 0, 0, 0), (206, .bipush 13, 0, 0, 0), (208, .newarray .long, 0, 0, 0), (210, .putfield 87, 11, 41, 0), (213, .aload_n 0, 0, 0, 0), (214, .bipush 41, 0, 0, 0), (216, .newarray .int, 0, 0, 0), (218, .putfield 90, 11, 42, 0), (221, .aload_n 0, 0, 0, 0), (222, .bipush 36, 0, 0, 0), (224, .newarray .int, 0, 0, 0), (226, .putfield 93, 11, 46, 0), (229, .aload_n 0, 0, 0, 0), (230, .iconst 2, 0, 0, 0), (231, .newarray .boolean, 0, 0, 0), (233, .putfield 96, 11, 47, 0), (236, .aload_n 0, 0, 0, 0), (237, .iconst 2, 0, 0, 0), (238, .newarray .int, 0, 0, 0), (240, .putfield 100, 11, 48, 0), (243, .aload_n 0, 0, 0, 0), (244, .getfield 9, 11, 0, 0), (247, .bipush 13, 0, 0, 0), (249, .iconst (-1), 0, 0, 0), (250, .iastore, 0, 0, 0), (251, .return_, 0, 0, 0)] : List zz_i))])
/-- 200: X12_thrown thrown()I  -/
def zm_200 : zz_MI := (⟨"OneStageTwoPlaysModel", "thrown", "()I"⟩, prog_14_method_2_code, 1, (some .int), [(0, 5, ([(0, .aload_n 0, 0, 0, 0), (1, .getfield 103, 11, 7, 0), (4, .ireturn, 0, 0, 0)] : List zz_i))])
/-- 201: X12_in in(III)Z  -/
def zm_201 : zz_MI := (⟨"OneStageTwoPlaysModel", "in", "(III)Z"⟩, prog_14_method_3_code, 3, (some .boolean), [(0, 14, ([(0, .iload_n 0, 0, 0, 0), (1, .iload_n 1, 0, 0, 0), (2, .if_icmp .lt 12, 0, 0, 0), (5, .iload_n 0, 0, 0, 0), (6, .iload_n 2, 0, 0, 0), (7, .if_icmp .gt 7, 0, 0, 0), (10, .iconst 1, 0, 0, 0), (11, .goto 4, 0, 0, 0)] : List zz_i)),
  (14, 15, ([(14, .iconst 0, 0, 0, 0)] : List zz_i)),
  (15, 16, ([(15, .ireturn, 0, 0, 0)] : List zz_i))])
/-- 202: X12_has has(II)Z  -/
def zm_202 : zz_MI := (⟨"OneStageTwoPlaysModel", "has", "(II)Z"⟩, prog_14_method_4_code, 2, (some .boolean), [(0, 13, ([(0, .iload_n 0, 0, 0, 0), (1, .iload_n 1, 0, 0, 0), (2, .ishr, 0, 0, 0), (3, .iconst 1, 0, 0, 0), (4, .iand, 0, 0, 0), (5, .iconst 1, 0, 0, 0), (6, .if_icmp .ne 7, 0, 0, 0), (9, .iconst 1, 0, 0, 0), (10, .goto 4, 0, 0, 0)] : List zz_i)),
  (13, 14, ([(13, .iconst 0, 0, 0, 0)] : List zz_i)),
  (14, 15, ([(14, .ireturn, 0, 0, 0)] : List zz_i))])
/-- 203: X12_lost lost()I  -/
def zm_203 : zz_MI := (⟨"OneStageTwoPlaysModel", "lost", "()I"⟩, prog_14_method_5_code, 1, (some .int), [(0, 7, ([(0, .aload_n 0, 0, 0, 0), (1, .iconst 1, 0, 0, 0), (2, .putfield 103, 11, 7, 0), (5, .iconst 0, 0, 0, 0), (6, .ireturn, 0, 0, 0)] : List zz_i))])
/-- 204: X12_tell tell(J)V  -/
def zm_204 : zz_MI := (⟨"OneStageTwoPlaysModel", "tell", "(J)V"⟩, prog_14_method_6_code, 3, none, [(0, 21, ([(0, .aload_n 0, 0, 0, 0), (1, .getfield 20, 11, 5, 0), (4, .aload_n 0, 0, 0, 0), (5, .getfield 107, 11, 6, 0), (8, .lload_n 1, 0, 0, 0), (9, .lastore, 0, 0, 0), (10, .aload_n 0, 0, 0, 0), (11, .dup, 0, 0, 0), (12, .getfield 107, 11, 6, 0), (15, .iconst 1, 0, 0, 0), (16, .iadd, 0, 0, 0), (17, .putfield 107, 11, 6, 0), (20, .return_, 0, 0, 0)] : List zz_i))])
/-- 205: X12_isScene isScene(I)Z  -/
def zm_205 : zz_MI := (⟨"OneStageTwoPlaysModel", "isScene", "(I)Z"⟩, prog_14_method_7_code, 2, (some .boolean), [(0, 12, ([(0, .iload_n 1, 0, 0, 0), (1, .iconst 0, 0, 0, 0), (2, .aload_n 0, 0, 0, 0), (3, .getfield 110, 11, 1, 0), (6, .iconst 1, 0, 0, 0), (7, .isub, 0, 0, 0), (8, .invokestatic 113, 201, 3, 0), (11, .ireturn, 0, 0, 0)] : List zz_i))])
/-- 206: X12_isPlay isPlay(I)Z  -/
def zm_206 : zz_MI := (⟨"OneStageTwoPlaysModel", "isPlay", "(I)Z"⟩, prog_14_method_8_code, 1, (some .boolean), [(0, 7, ([(0, .iload_n 0, 0, 0, 0), (1, .iconst 0, 0, 0, 0), (2, .iconst 1, 0, 0, 0), (3, .invokestatic 113, 201, 3, 0), (6, .ireturn, 0, 0, 0)] : List zz_i))])
/-- 207: X12_field field(II)I  -/
def zm_207 : zz_MI := (⟨"OneStageTwoPlaysModel", "field", "(II)I"⟩, prog_14_method_9_code, 3, (some .int), [(0, 12, ([(0, .aload_n 0, 0, 0, 0), (1, .getfield 13, 11, 2, 0), (4, .bipush 7, 0, 0, 0), (6, .iload_n 1, 0, 0, 0), (7, .imul, 0, 0, 0), (8, .iload_n 2, 0, 0, 0), (9, .iadd, 0, 0, 0), (10, .iaload, 0, 0, 0), (11, .ireturn, 0, 0, 0)] : List zz_i))])
/-- 208: X12_playOf playOf(I)I  -/
def zm_208 : zz_MI := (⟨"OneStageTwoPlaysModel", "playOf", "(I)I"⟩, prog_14_method_10_code, 2, (some .int), [(0, 7, ([(0, .aload_n 0, 0, 0, 0), (1, .iload_n 1, 0, 0, 0), (2, .iconst 0, 0, 0, 0), (3, .invokevirtual 117, 207, 3, 11), (6, .ireturn, 0, 0, 0)] : List zz_i))])
/-- 209: X12_sign sign(I)I  -/
def zm_209 : zz_MI := (⟨"OneStageTwoPlaysModel", "sign", "(I)I"⟩, prog_14_method_11_code, 3, (some .int), [(0, 18, ([(0, .aload_n 0, 0, 0, 0), (1, .iconst 0, 0, 0, 0), (2, .putfield 103, 11, 7, 0), (5, .aload_n 0, 0, 0, 0), (6, .getfield 121, 11, 4, 0), (9, .iconst 4, 0, 0, 0), (10, .iadd, 0, 0, 0), (11, .bipush 80, 0, 0, 0), (13, .if_icmp .le 5, 0, 0, 0), (16, .iconst (-1), 0, 0, 0), (17, .ireturn, 0, 0, 0)] : List zz_i)),
  (18, 20, ([(18, .iconst 3, 0, 0, 0), (19, .istore_n 2, 0, 0, 0)] : List zz_i)),
  (20, 53, ([(20, .iload_n 2, 0, 0, 0), (21, .ifCond .lt 32, 0, 0, 0), (24, .aload_n 0, 0, 0, 0), (25, .getfield 16, 11, 3, 0), (28, .aload_n 0, 0, 0, 0), (29, .dup, 0, 0, 0), (30, .getfield 121, 11, 4, 0), (33, .dup_x1, 0, 0, 0), (34, .iconst 1, 0, 0, 0), (35, .iadd, 0, 0, 0), (36, .putfield 121, 11, 4, 0), (39, .iload_n 1, 0, 0, 0), (40, .bipush 8, 0, 0, 0), (42, .iload_n 2, 0, 0, 0), (43, .imul, 0, 0, 0), (44, .ishr, 0, 0, 0), (45, .i2b, 0, 0, 0), (46, .bastore, 0, 0, 0), (47, .iinc 2 (-1), 0, 0, 0), (50, .goto (-30), 0, 0, 0)] : List zz_i)),
  (53, 58, ([(53, .aload_n 0, 0, 0, 0), (54, .getfield 121, 11, 4, 0), (57, .ireturn, 0, 0, 0)] : List zz_i))])
/-- 210: X12_end end(I)Z  -/
def zm_210 : zz_MI := (⟨"OneStageTwoPlaysModel", "end", "(I)Z"⟩, prog_14_method_12_code, 2, (some .boolean), [(0, 19, ([(0, .aload_n 0, 0, 0, 0), (1, .iconst 0, 0, 0, 0), (2, .putfield 103, 11, 7, 0), (5, .iload_n 1, 0, 0, 0), (6, .iconst 0, 0, 0, 0), (7, .aload_n 0, 0, 0, 0), (8, .getfield 121, 11, 4, 0), (11, .invokestatic 113, 201, 3, 0), (14, .ifCond .ne 5, 0, 0, 0), (17, .iconst 0, 0, 0, 0), (18, .ireturn, 0, 0, 0)] : List zz_i)),
  (19, 26, ([(19, .aload_n 0, 0, 0, 0), (20, .iload_n 1, 0, 0, 0), (21, .putfield 121, 11, 4, 0), (24, .iconst 1, 0, 0, 0), (25, .ireturn, 0, 0, 0)] : List zz_i))])
/-- 211: X12_begin begin([BII)V  -/
def zm_211 : zz_MI := (⟨"OneStageTwoPlaysModel", "begin", "([BII)V"⟩, prog_14_method_13_code, 4, none, [(0, 26, ([(0, .aload_n 0, 0, 0, 0), (1, .aload_n 1, 0, 0, 0), (2, .putfield 124, 11, 8, 0), (5, .aload_n 0, 0, 0, 0), (6, .iload_n 2, 0, 0, 0), (7, .putfield 127, 11, 9, 0), (10, .aload_n 0, 0, 0, 0), (11, .iload_n 3, 0, 0, 0), (12, .putfield 130, 11, 10, 0), (15, .aload_n 0, 0, 0, 0), (16, .iconst 0, 0, 0, 0), (17, .putfield 133, 11, 11, 0), (20, .aload_n 0, 0, 0, 0), (21, .iconst (-1), 0, 0, 0), (22, .putfield 136, 11, 12, 0), (25, .return_, 0, 0, 0)] : List zz_i))])
/-- 212: X12_beginText beginText(I)V  -/
def zm_212 : zz_MI := (⟨"OneStageTwoPlaysModel", "beginText", "(I)V"⟩, prog_14_method_14_code, 2, none, [(0, 19, ([(0, .aload_n 0, 0, 0, 0), (1, .aload_n 0, 0, 0, 0), (2, .getfield 16, 11, 3, 0), (5, .aload_n 0, 0, 0, 0), (6, .getfield 121, 11, 4, 0), (9, .iload_n 1, 0, 0, 0), (10, .invokevirtual 139, 211, 4, 11), (13, .aload_n 0, 0, 0, 0), (14, .iconst 0, 0, 0, 0), (15, .putfield 121, 11, 4, 0), (18, .return_, 0, 0, 0)] : List zz_i))])
/-- 213: X12_here here()I  -/
def zm_213 : zz_MI := (⟨"OneStageTwoPlaysModel", "here", "()I"⟩, prog_14_method_15_code, 1, (some .int), [(0, 38, ([(0, .aload_n 0, 0, 0, 0), (1, .getfield 133, 11, 11, 0), (4, .aload_n 0, 0, 0, 0), (5, .getfield 127, 11, 9, 0), (8, .if_icmp .ge 30, 0, 0, 0), (11, .aload_n 0, 0, 0, 0), (12, .getfield 133, 11, 11, 0), (15, .aload_n 0, 0, 0, 0), (16, .getfield 130, 11, 10, 0), (19, .if_icmp .ge 19, 0, 0, 0), (22, .aload_n 0, 0, 0, 0), (23, .getfield 124, 11, 8, 0), (26, .aload_n 0, 0, 0, 0), (27, .getfield 133, 11, 11, 0), (30, .baload, 0, 0, 0), (31, .sipush 255, 0, 0, 0), (34, .iand, 0, 0, 0), (35, .goto 4, 0, 0, 0)] : List zz_i)),
  (38, 39, ([(38, .iconst (-1), 0, 0, 0)] : List zz_i)),
  (39, 40, ([(39, .ireturn, 0, 0, 0)] : List zz_i))])
/-- 214: X12_fine fine()Z  -/
def zm_214 : zz_MI := (⟨"OneStageTwoPlaysModel", "fine", "()Z"⟩, prog_14_method_16_code, 1, (some .boolean), [(0, 12, ([(0, .aload_n 0, 0, 0, 0), (1, .getfield 136, 11, 12, 0), (4, .iconst (-1), 0, 0, 0), (5, .if_icmp .ne 7, 0, 0, 0), (8, .iconst 1, 0, 0, 0), (9, .goto 4, 0, 0, 0)] : List zz_i)),
  (12, 13, ([(12, .iconst 0, 0, 0, 0)] : List zz_i)),
  (13, 14, ([(13, .ireturn, 0, 0, 0)] : List zz_i))])
/-- 215: X12_fault fault(I)V  -/
def zm_215 : zz_MI := (⟨"OneStageTwoPlaysModel", "fault", "(I)V"⟩, prog_14_method_17_code, 2, none, [(0, 12, ([(0, .aload_n 0, 0, 0, 0), (1, .invokevirtual 143, 214, 1, 11), (4, .ifCond .eq 8, 0, 0, 0), (7, .aload_n 0, 0, 0, 0), (8, .iload_n 1, 0, 0, 0), (9, .putfield 136, 11, 12, 0)] : List zz_i)),
  (12, 13, ([(12, .return_, 0, 0, 0)] : List zz_i))])
/-- 216: X12_passes passes(C)Z  -/
def zm_216 : zz_MI := (⟨"OneStageTwoPlaysModel", "passes", "(C)Z"⟩, prog_14_method_18_code, 2, (some .boolean), [(0, 15, ([(0, .aload_n 0, 0, 0, 0), (1, .invokevirtual 143, 214, 1, 11), (4, .ifCond .eq 11, 0, 0, 0), (7, .aload_n 0, 0, 0, 0), (8, .invokevirtual 147, 213, 1, 11), (11, .iload_n 1, 0, 0, 0), (12, .if_icmp .eq 5, 0, 0, 0)] : List zz_i)),
  (15, 17, ([(15, .iconst 0, 0, 0, 0), (16, .ireturn, 0, 0, 0)] : List zz_i)),
  (17, 29, ([(17, .aload_n 0, 0, 0, 0), (18, .dup, 0, 0, 0), (19, .getfield 133, 11, 11, 0), (22, .iconst 1, 0, 0, 0), (23, .iadd, 0, 0, 0), (24, .putfield 133, 11, 11, 0), (27, .iconst 1, 0, 0, 0), (28, .ireturn, 0, 0, 0)] : List zz_i))])
/-- 217: X12_need need(C)V  -/
def zm_217 : zz_MI := (⟨"OneStageTwoPlaysModel", "need", "(C)V"⟩, prog_14_method_19_code, 2, none, [(0, 16, ([(0, .aload_n 0, 0, 0, 0), (1, .iload_n 1, 0, 0, 0), (2, .invokevirtual 151, 216, 2, 11), (5, .ifCond .ne 11, 0, 0, 0), (8, .aload_n 0, 0, 0, 0), (9, .aload_n 0, 0, 0, 0), (10, .getfield 133, 11, 11, 0), (13, .invokevirtual 155, 215, 2, 11)] : List zz_i)),
  (16, 17, ([(16, .return_, 0, 0, 0)] : List zz_i))])
/-- 218: X12_oneOf oneOf(CI)I  -/
def zm_218 : zz_MI := (⟨"OneStageTwoPlaysModel", "oneOf", "(CI)I"⟩, prog_14_method_20_code, 3, (some .int), [(0, 9, ([(0, .aload_n 0, 0, 0, 0), (1, .invokevirtual 143, 214, 1, 11), (4, .ifCond .ne 5, 0, 0, 0), (7, .iconst 0, 0, 0, 0), (8, .ireturn, 0, 0, 0)] : List zz_i)),
  (9, 35, ([(9, .aload_n 0, 0, 0, 0), (10, .invokevirtual 147, 213, 1, 11), (13, .iload_n 1, 0, 0, 0), (14, .iload_n 1, 0, 0, 0), (15, .iload_n 2, 0, 0, 0), (16, .iadd, 0, 0, 0), (17, .iconst 1, 0, 0, 0), (18, .isub, 0, 0, 0), (19, .invokestatic 113, 201, 3, 0), (22, .ifCond .ne 13, 0, 0, 0), (25, .aload_n 0, 0, 0, 0), (26, .aload_n 0, 0, 0, 0), (27, .getfield 133, 11, 11, 0), (30, .invokevirtual 155, 215, 2, 11), (33, .iconst 0, 0, 0, 0), (34, .ireturn, 0, 0, 0)] : List zz_i)),
  (35, 59, ([(35, .aload_n 0, 0, 0, 0), (36, .dup, 0, 0, 0), (37, .getfield 133, 11, 11, 0), (40, .iconst 1, 0, 0, 0), (41, .iadd, 0, 0, 0), (42, .putfield 133, 11, 11, 0), (45, .aload_n 0, 0, 0, 0), (46, .getfield 124, 11, 8, 0), (49, .aload_n 0, 0, 0, 0), (50, .getfield 133, 11, 11, 0), (53, .iconst 1, 0, 0, 0), (54, .isub, 0, 0, 0), (55, .baload, 0, 0, 0), (56, .iload_n 1, 0, 0, 0), (57, .isub, 0, 0, 0), (58, .ireturn, 0, 0, 0)] : List zz_i))])
/-- 219: X12_number number(I)I  -/
def zm_219 : zz_MI := (⟨"OneStageTwoPlaysModel", "number", "(I)I"⟩, prog_14_method_21_code, 4, (some .int), [(0, 11, ([(0, .aload_n 0, 0, 0, 0), (1, .bipush 48, 0, 0, 0), (3, .bipush 10, 0, 0, 0), (5, .invokevirtual 159, 218, 3, 11), (8, .istore_n 2, 0, 0, 0), (9, .iconst 1, 0, 0, 0), (10, .istore_n 3, 0, 0, 0)] : List zz_i)),
  (11, 57, ([(11, .iload_n 3, 0, 0, 0), (12, .iload_n 1, 0, 0, 0), (13, .if_icmp .ge 44, 0, 0, 0), (16, .aload_n 0, 0, 0, 0), (17, .invokevirtual 143, 214, 1, 11), (20, .ifCond .eq 37, 0, 0, 0), (23, .aload_n 0, 0, 0, 0), (24, .invokevirtual 147, 213, 1, 11), (27, .bipush 48, 0, 0, 0), (29, .bipush 57, 0, 0, 0), (31, .invokestatic 113, 201, 3, 0), (34, .ifCond .eq 23, 0, 0, 0), (37, .bipush 10, 0, 0, 0), (39, .iload_n 2, 0, 0, 0), (40, .imul, 0, 0, 0), (41, .aload_n 0, 0, 0, 0), (42, .bipush 48, 0, 0, 0), (44, .bipush 10, 0, 0, 0), (46, .invokevirtual 159, 218, 3, 11), (49, .iadd, 0, 0, 0), (50, .istore_n 2, 0, 0, 0), (51, .iinc 3 1, 0, 0, 0), (54, .goto (-43), 0, 0, 0)] : List zz_i)),
  (57, 59, ([(57, .iload_n 2, 0, 0, 0), (58, .ireturn, 0, 0, 0)] : List zz_i))])
/-- 220: X12_rising rising(CI)I  -/
def zm_220 : zz_MI := (⟨"OneStageTwoPlaysModel", "rising", "(CI)I"⟩, prog_14_method_22_code, 6, (some .int), [(0, 5, ([(0, .iconst 0, 0, 0, 0), (1, .istore_n 3, 0, 0, 0), (2, .iconst (-1), 0, 0, 0), (3, .istore 4, 0, 0, 0)] : List zz_i)),
  (5, 54, ([(5, .aload_n 0, 0, 0, 0), (6, .invokevirtual 143, 214, 1, 11), (9, .ifCond .eq 69, 0, 0, 0), (12, .aload_n 0, 0, 0, 0), (13, .invokevirtual 147, 213, 1, 11), (16, .iload_n 1, 0, 0, 0), (17, .iload_n 1, 0, 0, 0), (18, .iload_n 2, 0, 0, 0), (19, .iadd, 0, 0, 0), (20, .iconst 1, 0, 0, 0), (21, .isub, 0, 0, 0), (22, .invokestatic 113, 201, 3, 0), (25, .ifCond .eq 53, 0, 0, 0), (28, .aload_n 0, 0, 0, 0), (29, .invokevirtual 147, 213, 1, 11), (32, .iload_n 1, 0, 0, 0), (33, .isub, 0, 0, 0), (34, .istore 5, 0, 0, 0), (36, .iload 5, 0, 0, 0), (38, .iload 4, 0, 0, 0), (40, .if_icmp .gt 14, 0, 0, 0), (43, .aload_n 0, 0, 0, 0), (44, .aload_n 0, 0, 0, 0), (45, .getfield 133, 11, 11, 0), (48, .invokevirtual 155, 215, 2, 11), (51, .goto 24, 0, 0, 0)] : List zz_i)),
  (54, 75, ([(54, .aload_n 0, 0, 0, 0), (55, .dup, 0, 0, 0), (56, .getfield 133, 11, 11, 0), (59, .iconst 1, 0, 0, 0), (60, .iadd, 0, 0, 0), (61, .putfield 133, 11, 11, 0), (64, .iload_n 3, 0, 0, 0), (65, .iconst 1, 0, 0, 0), (66, .iload 5, 0, 0, 0), (68, .ishl, 0, 0, 0), (69, .ior, 0, 0, 0), (70, .istore_n 3, 0, 0, 0), (71, .iload 5, 0, 0, 0), (73, .istore 4, 0, 0, 0)] : List zz_i)),
  (75, 78, ([(75, .goto (-70), 0, 0, 0)] : List zz_i)),
  (78, 80, ([(78, .iload_n 3, 0, 0, 0), (79, .ireturn, 0, 0, 0)] : List zz_i))])
/-- 221: X12_wasRight wasRight()Z  -/
def zm_221 : zz_MI := (⟨"OneStageTwoPlaysModel", "wasRight", "()Z"⟩, prog_14_method_23_code, 1, (some .boolean), [(0, 19, ([(0, .aload_n 0, 0, 0, 0), (1, .getfield 133, 11, 11, 0), (4, .aload_n 0, 0, 0, 0), (5, .getfield 127, 11, 9, 0), (8, .if_icmp .ge 11, 0, 0, 0), (11, .aload_n 0, 0, 0, 0), (12, .aload_n 0, 0, 0, 0), (13, .getfield 133, 11, 11, 0), (16, .invokevirtual 155, 215, 2, 11)] : List zz_i)),
  (19, 24, ([(19, .aload_n 0, 0, 0, 0), (20, .invokevirtual 143, 214, 1, 11), (23, .ireturn, 0, 0, 0)] : List zz_i))])
/-- 222: X12_readScene readScene(I)V  -/
def zm_222 : zz_MI := (⟨"OneStageTwoPlaysModel", "readScene", "(I)V"⟩, prog_14_method_24_code, 2, none, [(0, 89, ([(0, .aload_n 0, 0, 0, 0), (1, .getfield 24, 11, 13, 0), (4, .iload_n 1, 0, 0, 0), (5, .aload_n 0, 0, 0, 0), (6, .bipush 48, 0, 0, 0), (8, .iconst 2, 0, 0, 0), (9, .invokevirtual 159, 218, 3, 11), (12, .iastore, 0, 0, 0), (13, .aload_n 0, 0, 0, 0), (14, .getfield 24, 11, 13, 0), (17, .iload_n 1, 0, 0, 0), (18, .iconst 1, 0, 0, 0), (19, .iadd, 0, 0, 0), (20, .aload_n 0, 0, 0, 0), (21, .bipush 49, 0, 0, 0), (23, .bipush 9, 0, 0, 0), (25, .invokevirtual 159, 218, 3, 11), (28, .iconst 1, 0, 0, 0), (29, .iadd, 0, 0, 0), (30, .iastore, 0, 0, 0), (31, .aload_n 0, 0, 0, 0), (32, .getfield 24, 11, 13, 0), (35, .iload_n 1, 0, 0, 0), (36, .iconst 2, 0, 0, 0), (37, .iadd, 0, 0, 0), (38, .aload_n 0, 0, 0, 0), (39, .bipush 65, 0, 0, 0), (41, .bipush 6, 0, 0, 0), (43, .invokevirtual 163, 220, 3, 11), (46, .iastore, 0, 0, 0), (47, .aload_n 0, 0, 0, 0), (48, .getfield 24, 11, 13, 0), (51, .iload_n 1, 0, 0, 0), (52, .iconst 3, 0, 0, 0), (53, .iadd, 0, 0, 0), (54, .aload_n 0, 0, 0, 0), (55, .bipush 49, 0, 0, 0), (57, .iconst 4, 0, 0, 0), (58, .invokevirtual 163, 220, 3, 11), (61, .iastore, 0, 0, 0), (62, .aload_n 0, 0, 0, 0), (63, .getfield 24, 11, 13, 0), (66, .iload_n 1, 0, 0, 0), (67, .iconst 4, 0, 0, 0), (68, .iadd, 0, 0, 0), (69, .aload_n 0, 0, 0, 0), (70, .bipush 62, 0, 0, 0), (72, .invokevirtual 151, 216, 2, 11), (75, .ifCond .eq 14, 0, 0, 0), (78, .aload_n 0, 0, 0, 0), (79, .bipush 97, 0, 0, 0), (81, .bipush 8, 0, 0, 0), (83, .invokevirtual 159, 218, 3, 11), (86, .goto 4, 0, 0, 0)] : List zz_i)),
  (89, 90, ([(89, .iconst (-1), 0, 0, 0)] : List zz_i)),
  (90, 118, ([(90, .iastore, 0, 0, 0), (91, .aload_n 0, 0, 0, 0), (92, .getfield 24, 11, 13, 0), (95, .iload_n 1, 0, 0, 0), (96, .iconst 5, 0, 0, 0), (97, .iadd, 0, 0, 0), (98, .aload_n 0, 0, 0, 0), (99, .bipush 60, 0, 0, 0), (101, .invokevirtual 151, 216, 2, 11), (104, .ifCond .eq 14, 0, 0, 0), (107, .aload_n 0, 0, 0, 0), (108, .bipush 97, 0, 0, 0), (110, .bipush 8, 0, 0, 0), (112, .invokevirtual 159, 218, 3, 11), (115, .goto 4, 0, 0, 0)] : List zz_i)),
  (118, 119, ([(118, .iconst (-1), 0, 0, 0)] : List zz_i)),
  (119, 144, ([(119, .iastore, 0, 0, 0), (120, .aload_n 0, 0, 0, 0), (121, .bipush 61, 0, 0, 0), (123, .invokevirtual 166, 217, 2, 11), (126, .aload_n 0, 0, 0, 0), (127, .getfield 24, 11, 13, 0), (130, .iload_n 1, 0, 0, 0), (131, .bipush 6, 0, 0, 0), (133, .iadd, 0, 0, 0), (134, .aload_n 0, 0, 0, 0), (135, .bipush 48, 0, 0, 0), (137, .bipush 10, 0, 0, 0), (139, .invokevirtual 159, 218, 3, 11), (142, .iastore, 0, 0, 0), (143, .return_, 0, 0, 0)] : List zz_i))])
/-- 223: X12_scenes scenes()I  -/
def zm_223 : zz_MI := (⟨"OneStageTwoPlaysModel", "scenes", "()I"⟩, prog_14_method_25_code, 4, (some .int), [(0, 20, ([(0, .aload_n 0, 0, 0, 0), (1, .iconst 0, 0, 0, 0), (2, .putfield 103, 11, 7, 0), (5, .aload_n 0, 0, 0, 0), (6, .bipush 76, 0, 0, 0), (8, .invokevirtual 170, 212, 2, 11), (11, .aload_n 0, 0, 0, 0), (12, .getfield 127, 11, 9, 0), (15, .ifCond .ne 5, 0, 0, 0), (18, .iconst 0, 0, 0, 0), (19, .ireturn, 0, 0, 0)] : List zz_i)),
  (20, 24, ([(20, .iconst 0, 0, 0, 0), (21, .istore_n 1, 0, 0, 0), (22, .iconst 1, 0, 0, 0), (23, .istore_n 2, 0, 0, 0)] : List zz_i)),
  (24, 57, ([(24, .iload_n 2, 0, 0, 0), (25, .ifCond .eq 53, 0, 0, 0), (28, .aload_n 0, 0, 0, 0), (29, .invokevirtual 143, 214, 1, 11), (32, .ifCond .eq 46, 0, 0, 0), (35, .aload_n 0, 0, 0, 0), (36, .getfield 110, 11, 1, 0), (39, .iload_n 1, 0, 0, 0), (40, .iadd, 0, 0, 0), (41, .bipush 12, 0, 0, 0), (43, .if_icmp .ne 14, 0, 0, 0), (46, .aload_n 0, 0, 0, 0), (47, .aload_n 0, 0, 0, 0), (48, .getfield 133, 11, 11, 0), (51, .invokevirtual 155, 215, 2, 11), (54, .goto 11, 0, 0, 0)] : List zz_i)),
  (57, 65, ([(57, .aload_n 0, 0, 0, 0), (58, .bipush 7, 0, 0, 0), (60, .iload_n 1, 0, 0, 0), (61, .imul, 0, 0, 0), (62, .invokevirtual 173, 222, 2, 11)] : List zz_i)),
  (65, 78, ([(65, .iinc 1 1, 0, 0, 0), (68, .aload_n 0, 0, 0, 0), (69, .bipush 59, 0, 0, 0), (71, .invokevirtual 151, 216, 2, 11), (74, .istore_n 2, 0, 0, 0), (75, .goto (-51), 0, 0, 0)] : List zz_i)),
  (78, 92, ([(78, .aload_n 0, 0, 0, 0), (79, .invokevirtual 176, 221, 1, 11), (82, .ifCond .ne 10, 0, 0, 0), (85, .iconst (-1), 0, 0, 0), (86, .aload_n 0, 0, 0, 0), (87, .getfield 136, 11, 12, 0), (90, .isub, 0, 0, 0), (91, .ireturn, 0, 0, 0)] : List zz_i)),
  (92, 94, ([(92, .iconst 0, 0, 0, 0), (93, .istore_n 3, 0, 0, 0)] : List zz_i)),
  (94, 128, ([(94, .iload_n 3, 0, 0, 0), (95, .bipush 7, 0, 0, 0), (97, .iload_n 1, 0, 0, 0), (98, .imul, 0, 0, 0), (99, .if_icmp .ge 29, 0, 0, 0), (102, .aload_n 0, 0, 0, 0), (103, .getfield 13, 11, 2, 0), (106, .bipush 7, 0, 0, 0), (108, .aload_n 0, 0, 0, 0), (109, .getfield 110, 11, 1, 0), (112, .imul, 0, 0, 0), (113, .iload_n 3, 0, 0, 0), (114, .iadd, 0, 0, 0), (115, .aload_n 0, 0, 0, 0), (116, .getfield 24, 11, 13, 0), (119, .iload_n 3, 0, 0, 0), (120, .iaload, 0, 0, 0), (121, .iastore, 0, 0, 0), (122, .iinc 3 1, 0, 0, 0), (125, .goto (-31), 0, 0, 0)] : List zz_i)),
  (128, 130, ([(128, .iconst 0, 0, 0, 0), (129, .istore_n 3, 0, 0, 0)] : List zz_i)),
  (130, 161, ([(130, .iload_n 3, 0, 0, 0), (131, .iload_n 1, 0, 0, 0), (132, .if_icmp .ge 29, 0, 0, 0), (135, .aload_n 0, 0, 0, 0), (136, .getfield 9, 11, 0, 0), (139, .aload_n 0, 0, 0, 0), (140, .getfield 110, 11, 1, 0), (143, .iconst 0, 0, 0, 0), (144, .iastore, 0, 0, 0), (145, .aload_n 0, 0, 0, 0), (146, .dup, 0, 0, 0), (147, .getfield 110, 11, 1, 0), (150, .iconst 1, 0, 0, 0), (151, .iadd, 0, 0, 0), (152, .putfield 110, 11, 1, 0), (155, .iinc 3 1, 0, 0, 0), (158, .goto (-28), 0, 0, 0)] : List zz_i)),
  (161, 178, ([(161, .aload_n 0, 0, 0, 0), (162, .iconst 0, 0, 0, 0), (163, .putfield 179, 11, 20, 0), (166, .aload_n 0, 0, 0, 0), (167, .dup, 0, 0, 0), (168, .getfield 182, 11, 45, 0), (171, .iconst 1, 0, 0, 0), (172, .iadd, 0, 0, 0), (173, .putfield 182, 11, 45, 0), (176, .iload_n 1, 0, 0, 0), (177, .ireturn, 0, 0, 0)] : List zz_i))])
/-- 224: X12_held held(I)I  -/
def zm_224 : zz_MI := (⟨"OneStageTwoPlaysModel", "held", "(I)I"⟩, prog_14_method_26_code, 3, (some .int), [(0, 28, ([(0, .aload_n 0, 0, 0, 0), (1, .iload_n 1, 0, 0, 0), (2, .invokevirtual 185, 225, 2, 11), (5, .istore_n 2, 0, 0, 0), (6, .aload_n 0, 0, 0, 0), (7, .bipush 60, 0, 0, 0), (9, .invokevirtual 151, 216, 2, 11), (12, .ifCond .eq 18, 0, 0, 0), (15, .iload_n 2, 0, 0, 0), (16, .aload_n 0, 0, 0, 0), (17, .iload_n 1, 0, 0, 0), (18, .invokevirtual 185, 225, 2, 11), (21, .if_icmp .ge 7, 0, 0, 0), (24, .iconst 1, 0, 0, 0), (25, .goto 4, 0, 0, 0)] : List zz_i)),
  (28, 29, ([(28, .iconst 0, 0, 0, 0)] : List zz_i)),
  (29, 30, ([(29, .ireturn, 0, 0, 0)] : List zz_i)),
  (30, 52, ([(30, .aload_n 0, 0, 0, 0), (31, .bipush 62, 0, 0, 0), (33, .invokevirtual 151, 216, 2, 11), (36, .ifCond .eq 18, 0, 0, 0), (39, .iload_n 2, 0, 0, 0), (40, .aload_n 0, 0, 0, 0), (41, .iload_n 1, 0, 0, 0), (42, .invokevirtual 185, 225, 2, 11), (45, .if_icmp .le 7, 0, 0, 0), (48, .iconst 1, 0, 0, 0), (49, .goto 4, 0, 0, 0)] : List zz_i)),
  (52, 53, ([(52, .iconst 0, 0, 0, 0)] : List zz_i)),
  (53, 54, ([(53, .ireturn, 0, 0, 0)] : List zz_i)),
  (54, 76, ([(54, .aload_n 0, 0, 0, 0), (55, .bipush 61, 0, 0, 0), (57, .invokevirtual 151, 216, 2, 11), (60, .ifCond .eq 18, 0, 0, 0), (63, .iload_n 2, 0, 0, 0), (64, .aload_n 0, 0, 0, 0), (65, .iload_n 1, 0, 0, 0), (66, .invokevirtual 185, 225, 2, 11), (69, .if_icmp .ne 7, 0, 0, 0), (72, .iconst 1, 0, 0, 0), (73, .goto 4, 0, 0, 0)] : List zz_i)),
  (76, 77, ([(76, .iconst 0, 0, 0, 0)] : List zz_i)),
  (77, 78, ([(77, .ireturn, 0, 0, 0)] : List zz_i)),
  (78, 80, ([(78, .iload_n 2, 0, 0, 0), (79, .ireturn, 0, 0, 0)] : List zz_i))])
/-- 225: X12_sum sum(I)I  -/
def zm_225 : zz_MI := (⟨"OneStageTwoPlaysModel", "sum", "(I)I"⟩, prog_14_method_27_code, 5, (some .int), [(0, 6, ([(0, .aload_n 0, 0, 0, 0), (1, .iload_n 1, 0, 0, 0), (2, .invokevirtual 189, 226, 2, 11), (5, .istore_n 2, 0, 0, 0)] : List zz_i)),
  (6, 31, ([(6, .aload_n 0, 0, 0, 0), (7, .invokevirtual 143, 214, 1, 11), (10, .ifCond .eq 72, 0, 0, 0), (13, .aload_n 0, 0, 0, 0), (14, .invokevirtual 147, 213, 1, 11), (17, .bipush 43, 0, 0, 0), (19, .if_icmp .eq 12, 0, 0, 0), (22, .aload_n 0, 0, 0, 0), (23, .invokevirtual 147, 213, 1, 11), (26, .bipush 45, 0, 0, 0), (28, .if_icmp .ne 54, 0, 0, 0)] : List zz_i)),
  (31, 44, ([(31, .aload_n 0, 0, 0, 0), (32, .invokevirtual 147, 213, 1, 11), (35, .bipush 43, 0, 0, 0), (37, .if_icmp .ne 7, 0, 0, 0), (40, .iconst 1, 0, 0, 0), (41, .goto 4, 0, 0, 0)] : List zz_i)),
  (44, 45, ([(44, .iconst 0, 0, 0, 0)] : List zz_i)),
  (45, 74, ([(45, .istore_n 3, 0, 0, 0), (46, .aload_n 0, 0, 0, 0), (47, .dup, 0, 0, 0), (48, .getfield 133, 11, 11, 0), (51, .iconst 1, 0, 0, 0), (52, .iadd, 0, 0, 0), (53, .putfield 133, 11, 11, 0), (56, .aload_n 0, 0, 0, 0), (57, .iload_n 1, 0, 0, 0), (58, .invokevirtual 189, 226, 2, 11), (61, .istore 4, 0, 0, 0), (63, .iload_n 3, 0, 0, 0), (64, .ifCond .eq 10, 0, 0, 0), (67, .iload_n 2, 0, 0, 0), (68, .iload 4, 0, 0, 0), (70, .iadd, 0, 0, 0), (71, .goto 7, 0, 0, 0)] : List zz_i)),
  (74, 78, ([(74, .iload_n 2, 0, 0, 0), (75, .iload 4, 0, 0, 0), (77, .isub, 0, 0, 0)] : List zz_i)),
  (78, 82, ([(78, .istore_n 2, 0, 0, 0), (79, .goto (-73), 0, 0, 0)] : List zz_i)),
  (82, 84, ([(82, .iload_n 2, 0, 0, 0), (83, .ireturn, 0, 0, 0)] : List zz_i))])
/-- 226: X12_product product(I)I  -/
def zm_226 : zz_MI := (⟨"OneStageTwoPlaysModel", "product", "(I)I"⟩, prog_14_method_28_code, 5, (some .int), [(0, 6, ([(0, .aload_n 0, 0, 0, 0), (1, .iload_n 1, 0, 0, 0), (2, .invokevirtual 192, 228, 2, 11), (5, .istore_n 2, 0, 0, 0)] : List zz_i)),
  (6, 31, ([(6, .aload_n 0, 0, 0, 0), (7, .invokevirtual 143, 214, 1, 11), (10, .ifCond .eq 81, 0, 0, 0), (13, .aload_n 0, 0, 0, 0), (14, .invokevirtual 147, 213, 1, 11), (17, .bipush 42, 0, 0, 0), (19, .if_icmp .eq 12, 0, 0, 0), (22, .aload_n 0, 0, 0, 0), (23, .invokevirtual 147, 213, 1, 11), (26, .bipush 47, 0, 0, 0), (28, .if_icmp .ne 63, 0, 0, 0)] : List zz_i)),
  (31, 44, ([(31, .aload_n 0, 0, 0, 0), (32, .invokevirtual 147, 213, 1, 11), (35, .bipush 42, 0, 0, 0), (37, .if_icmp .ne 7, 0, 0, 0), (40, .iconst 1, 0, 0, 0), (41, .goto 4, 0, 0, 0)] : List zz_i)),
  (44, 45, ([(44, .iconst 0, 0, 0, 0)] : List zz_i)),
  (45, 74, ([(45, .istore_n 3, 0, 0, 0), (46, .aload_n 0, 0, 0, 0), (47, .dup, 0, 0, 0), (48, .getfield 133, 11, 11, 0), (51, .iconst 1, 0, 0, 0), (52, .iadd, 0, 0, 0), (53, .putfield 133, 11, 11, 0), (56, .aload_n 0, 0, 0, 0), (57, .iload_n 1, 0, 0, 0), (58, .invokevirtual 192, 228, 2, 11), (61, .istore 4, 0, 0, 0), (63, .iload_n 3, 0, 0, 0), (64, .ifCond .eq 10, 0, 0, 0), (67, .iload_n 2, 0, 0, 0), (68, .iload 4, 0, 0, 0), (70, .imul, 0, 0, 0), (71, .goto 16, 0, 0, 0)] : List zz_i)),
  (74, 83, ([(74, .iload 4, 0, 0, 0), (76, .ifCond .ne 7, 0, 0, 0), (79, .iconst 0, 0, 0, 0), (80, .goto 7, 0, 0, 0)] : List zz_i)),
  (83, 87, ([(83, .iload_n 2, 0, 0, 0), (84, .iload 4, 0, 0, 0), (86, .idiv, 0, 0, 0)] : List zz_i)),
  (87, 91, ([(87, .istore_n 2, 0, 0, 0), (88, .goto (-82), 0, 0, 0)] : List zz_i)),
  (91, 93, ([(91, .iload_n 2, 0, 0, 0), (92, .ireturn, 0, 0, 0)] : List zz_i))])
/-- 227: X12_letterOf letterOf(I)I  -/
def zm_227 : zz_MI := (⟨"OneStageTwoPlaysModel", "letterOf", "(I)I"⟩, prog_14_method_29_code, 1, (some .int), [(0, 10, ([(0, .iload_n 0, 0, 0, 0), (1, .bipush 111, 0, 0, 0), (3, .if_icmp .ne 7, 0, 0, 0), (6, .iconst 0, 0, 0, 0), (7, .goto 54, 0, 0, 0)] : List zz_i)),
  (10, 20, ([(10, .iload_n 0, 0, 0, 0), (11, .bipush 112, 0, 0, 0), (13, .if_icmp .ne 7, 0, 0, 0), (16, .iconst 1, 0, 0, 0), (17, .goto 44, 0, 0, 0)] : List zz_i)),
  (20, 30, ([(20, .iload_n 0, 0, 0, 0), (21, .bipush 113, 0, 0, 0), (23, .if_icmp .ne 7, 0, 0, 0), (26, .iconst 2, 0, 0, 0), (27, .goto 34, 0, 0, 0)] : List zz_i)),
  (30, 40, ([(30, .iload_n 0, 0, 0, 0), (31, .bipush 109, 0, 0, 0), (33, .if_icmp .ne 7, 0, 0, 0), (36, .iconst 3, 0, 0, 0), (37, .goto 24, 0, 0, 0)] : List zz_i)),
  (40, 50, ([(40, .iload_n 0, 0, 0, 0), (41, .bipush 108, 0, 0, 0), (43, .if_icmp .ne 7, 0, 0, 0), (46, .iconst 4, 0, 0, 0), (47, .goto 14, 0, 0, 0)] : List zz_i)),
  (50, 60, ([(50, .iload_n 0, 0, 0, 0), (51, .bipush 115, 0, 0, 0), (53, .if_icmp .ne 7, 0, 0, 0), (56, .iconst 5, 0, 0, 0), (57, .goto 4, 0, 0, 0)] : List zz_i)),
  (60, 61, ([(60, .iconst (-1), 0, 0, 0)] : List zz_i)),
  (61, 62, ([(61, .ireturn, 0, 0, 0)] : List zz_i))])
/-- 228: X12_thing thing(I)I  -/
def zm_228 : zz_MI := (⟨"OneStageTwoPlaysModel", "thing", "(I)I"⟩, prog_14_method_30_code, 4, (some .int), [(0, 16, ([(0, .aload_n 0, 0, 0, 0), (1, .bipush 45, 0, 0, 0), (3, .invokevirtual 151, 216, 2, 11), (6, .ifCond .eq 10, 0, 0, 0), (9, .aload_n 0, 0, 0, 0), (10, .iload_n 1, 0, 0, 0), (11, .invokevirtual 192, 228, 2, 11), (14, .ineg, 0, 0, 0), (15, .ireturn, 0, 0, 0)] : List zz_i)),
  (16, 25, ([(16, .aload_n 0, 0, 0, 0), (17, .invokevirtual 143, 214, 1, 11), (20, .ifCond .ne 5, 0, 0, 0), (23, .iconst 0, 0, 0, 0), (24, .ireturn, 0, 0, 0)] : List zz_i)),
  (25, 67, ([(25, .aload_n 0, 0, 0, 0), (26, .invokevirtual 147, 213, 1, 11), (29, .istore_n 2, 0, 0, 0), (30, .iload_n 2, 0, 0, 0), (31, .bipush 40, 0, 0, 0), (33, .if_icmp .ne 34, 0, 0, 0), (36, .iload_n 1, 0, 0, 0), (37, .iconst 4, 0, 0, 0), (38, .if_icmp .ge 29, 0, 0, 0), (41, .aload_n 0, 0, 0, 0), (42, .dup, 0, 0, 0), (43, .getfield 133, 11, 11, 0), (46, .iconst 1, 0, 0, 0), (47, .iadd, 0, 0, 0), (48, .putfield 133, 11, 11, 0), (51, .aload_n 0, 0, 0, 0), (52, .iload_n 1, 0, 0, 0), (53, .iconst 1, 0, 0, 0), (54, .iadd, 0, 0, 0), (55, .invokevirtual 195, 224, 2, 11), (58, .istore_n 3, 0, 0, 0), (59, .aload_n 0, 0, 0, 0), (60, .bipush 41, 0, 0, 0), (62, .invokevirtual 166, 217, 2, 11), (65, .iload_n 3, 0, 0, 0), (66, .ireturn, 0, 0, 0)] : List zz_i)),
  (67, 84, ([(67, .iload_n 2, 0, 0, 0), (68, .bipush 48, 0, 0, 0), (70, .bipush 57, 0, 0, 0), (72, .invokestatic 113, 201, 3, 0), (75, .ifCond .eq 9, 0, 0, 0), (78, .aload_n 0, 0, 0, 0), (79, .iconst 3, 0, 0, 0), (80, .invokevirtual 198, 219, 2, 11), (83, .ireturn, 0, 0, 0)] : List zz_i)),
  (84, 102, ([(84, .iload_n 2, 0, 0, 0), (85, .invokestatic 201, 227, 1, 0), (88, .iconst (-1), 0, 0, 0), (89, .if_icmp .ne 13, 0, 0, 0), (92, .aload_n 0, 0, 0, 0), (93, .aload_n 0, 0, 0, 0), (94, .getfield 133, 11, 11, 0), (97, .invokevirtual 155, 215, 2, 11), (100, .iconst 0, 0, 0, 0), (101, .ireturn, 0, 0, 0)] : List zz_i)),
  (102, 131, ([(102, .aload_n 0, 0, 0, 0), (103, .dup, 0, 0, 0), (104, .getfield 133, 11, 11, 0), (107, .iconst 1, 0, 0, 0), (108, .iadd, 0, 0, 0), (109, .putfield 133, 11, 11, 0), (112, .aload_n 0, 0, 0, 0), (113, .getfield 204, 11, 17, 0), (116, .ifCond .eq 15, 0, 0, 0), (119, .aload_n 0, 0, 0, 0), (120, .getfield 33, 11, 18, 0), (123, .iload_n 2, 0, 0, 0), (124, .invokestatic 201, 227, 1, 0), (127, .iaload, 0, 0, 0), (128, .goto 4, 0, 0, 0)] : List zz_i)),
  (131, 132, ([(131, .iconst 0, 0, 0, 0)] : List zz_i)),
  (132, 133, ([(132, .ireturn, 0, 0, 0)] : List zz_i))])
/-- 229: X12_readRule readRule()Z  -/
def zm_229 : zz_MI := (⟨"OneStageTwoPlaysModel", "readRule", "()Z"⟩, prog_14_method_31_code, 1, (some .boolean), [(0, 24, ([(0, .aload_n 0, 0, 0, 0), (1, .bipush 40, 0, 0, 0), (3, .invokevirtual 170, 212, 2, 11), (6, .aload_n 0, 0, 0, 0), (7, .iconst 0, 0, 0, 0), (8, .putfield 204, 11, 17, 0), (11, .aload_n 0, 0, 0, 0), (12, .getfield 127, 11, 9, 0), (15, .ifCond .le 9, 0, 0, 0), (18, .aload_n 0, 0, 0, 0), (19, .iconst 0, 0, 0, 0), (20, .invokevirtual 195, 224, 2, 11), (23, .pop, 0, 0, 0)] : List zz_i)),
  (24, 29, ([(24, .aload_n 0, 0, 0, 0), (25, .invokevirtual 176, 221, 1, 11), (28, .ireturn, 0, 0, 0)] : List zz_i))])
/-- 230: X12_rule rule()I  -/
def zm_230 : zz_MI := (⟨"OneStageTwoPlaysModel", "rule", "()I"⟩, prog_14_method_32_code, 3, (some .int), [(0, 24, ([(0, .aload_n 0, 0, 0, 0), (1, .iconst 0, 0, 0, 0), (2, .putfield 103, 11, 7, 0), (5, .aload_n 0, 0, 0, 0), (6, .getfield 121, 11, 4, 0), (9, .istore_n 1, 0, 0, 0), (10, .aload_n 0, 0, 0, 0), (11, .invokevirtual 208, 229, 1, 11), (14, .ifCond .ne 10, 0, 0, 0), (17, .iconst (-1), 0, 0, 0), (18, .aload_n 0, 0, 0, 0), (19, .getfield 136, 11, 12, 0), (22, .isub, 0, 0, 0), (23, .ireturn, 0, 0, 0)] : List zz_i)),
  (24, 26, ([(24, .iconst 0, 0, 0, 0), (25, .istore_n 2, 0, 0, 0)] : List zz_i)),
  (26, 49, ([(26, .iload_n 2, 0, 0, 0), (27, .iload_n 1, 0, 0, 0), (28, .if_icmp .ge 21, 0, 0, 0), (31, .aload_n 0, 0, 0, 0), (32, .getfield 27, 11, 14, 0), (35, .iload_n 2, 0, 0, 0), (36, .aload_n 0, 0, 0, 0), (37, .getfield 16, 11, 3, 0), (40, .iload_n 2, 0, 0, 0), (41, .baload, 0, 0, 0), (42, .bastore, 0, 0, 0), (43, .iinc 2 1, 0, 0, 0), (46, .goto (-20), 0, 0, 0)] : List zz_i)),
  (49, 56, ([(49, .aload_n 0, 0, 0, 0), (50, .iload_n 1, 0, 0, 0), (51, .putfield 211, 11, 16, 0), (54, .iconst 0, 0, 0, 0), (55, .ireturn, 0, 0, 0)] : List zz_i))])
/-- 231: X12_changeOf changeOf(II)I  -/
def zm_231 : zz_MI := (⟨"OneStageTwoPlaysModel", "changeOf", "(II)I"⟩, prog_14_method_33_code, 7, (some .int), [(0, 17, ([(0, .aload_n 0, 0, 0, 0), (1, .iload_n 1, 0, 0, 0), (2, .invokevirtual 214, 208, 2, 11), (5, .aload_n 0, 0, 0, 0), (6, .iload_n 2, 0, 0, 0), (7, .invokevirtual 214, 208, 2, 11), (10, .if_icmp .ne 7, 0, 0, 0), (13, .iconst 0, 0, 0, 0), (14, .goto 4, 0, 0, 0)] : List zz_i)),
  (17, 18, ([(17, .iconst 1, 0, 0, 0)] : List zz_i)),
  (18, 166, ([(18, .istore_n 3, 0, 0, 0), (19, .aload_n 0, 0, 0, 0), (20, .iload_n 1, 0, 0, 0), (21, .iconst 2, 0, 0, 0), (22, .invokevirtual 117, 207, 3, 11), (25, .aload_n 0, 0, 0, 0), (26, .iload_n 2, 0, 0, 0), (27, .iconst 2, 0, 0, 0), (28, .invokevirtual 117, 207, 3, 11), (31, .iand, 0, 0, 0), (32, .invokestatic 217, 308, 1, 0), (35, .istore 4, 0, 0, 0), (37, .aload_n 0, 0, 0, 0), (38, .iload_n 1, 0, 0, 0), (39, .iconst 3, 0, 0, 0), (40, .invokevirtual 117, 207, 3, 11), (43, .aload_n 0, 0, 0, 0), (44, .iload_n 2, 0, 0, 0), (45, .iconst 3, 0, 0, 0), (46, .invokevirtual 117, 207, 3, 11), (49, .ixor, 0, 0, 0), (50, .invokestatic 217, 308, 1, 0), (53, .istore 5, 0, 0, 0), (55, .iconst 2, 0, 0, 0), (56, .iload_n 3, 0, 0, 0), (57, .imul, 0, 0, 0), (58, .iload 4, 0, 0, 0), (60, .iadd, 0, 0, 0), (61, .iload 5, 0, 0, 0), (63, .iadd, 0, 0, 0), (64, .istore 6, 0, 0, 0), (66, .aload_n 0, 0, 0, 0), (67, .getfield 211, 11, 16, 0), (70, .ifCond .le 96, 0, 0, 0), (73, .aload_n 0, 0, 0, 0), (74, .getfield 33, 11, 18, 0), (77, .iconst 0, 0, 0, 0), (78, .iload_n 3, 0, 0, 0), (79, .iastore, 0, 0, 0), (80, .aload_n 0, 0, 0, 0), (81, .getfield 33, 11, 18, 0), (84, .iconst 1, 0, 0, 0), (85, .iload 4, 0, 0, 0), (87, .iastore, 0, 0, 0), (88, .aload_n 0, 0, 0, 0), (89, .getfield 33, 11, 18, 0), (92, .iconst 2, 0, 0, 0), (93, .iload 5, 0, 0, 0), (95, .iastore, 0, 0, 0), (96, .aload_n 0, 0, 0, 0), (97, .getfield 33, 11, 18, 0), (100, .iconst 3, 0, 0, 0), (101, .aload_n 0, 0, 0, 0), (102, .iload_n 2, 0, 0, 0), (103, .iconst 1, 0, 0, 0), (104, .invokevirtual 117, 207, 3, 11), (107, .iastore, 0, 0, 0), (108, .aload_n 0, 0, 0, 0), (109, .getfield 33, 11, 18, 0), (112, .iconst 4, 0, 0, 0), (113, .aload_n 0, 0, 0, 0), (114, .iload_n 1, 0, 0, 0), (115, .iconst 1, 0, 0, 0), (116, .invokevirtual 117, 207, 3, 11), (119, .iastore, 0, 0, 0), (120, .aload_n 0, 0, 0, 0), (121, .getfield 33, 11, 18, 0), (124, .iconst 5, 0, 0, 0), (125, .aload_n 0, 0, 0, 0), (126, .iload_n 2, 0, 0, 0), (127, .iconst 2, 0, 0, 0), (128, .invokevirtual 117, 207, 3, 11), (131, .invokestatic 217, 308, 1, 0), (134, .iastore, 0, 0, 0), (135, .aload_n 0, 0, 0, 0), (136, .aload_n 0, 0, 0, 0), (137, .getfield 27, 11, 14, 0), (140, .aload_n 0, 0, 0, 0), (141, .getfield 211, 11, 16, 0), (144, .bipush 40, 0, 0, 0), (146, .invokevirtual 139, 211, 4, 11), (149, .aload_n 0, 0, 0, 0), (150, .iconst 1, 0, 0, 0), (151, .putfield 204, 11, 17, 0), (154, .aload_n 0, 0, 0, 0), (155, .iconst 0, 0, 0, 0), (156, .invokevirtual 195, 224, 2, 11), (159, .istore 6, 0, 0, 0), (161, .aload_n 0, 0, 0, 0), (162, .iconst 0, 0, 0, 0), (163, .putfield 204, 11, 17, 0)] : List zz_i)),
  (166, 178, ([(166, .iconst 0, 0, 0, 0), (167, .bipush 99, 0, 0, 0), (169, .iload 6, 0, 0, 0), (171, .invokestatic 222, 310, 2, 0), (174, .invokestatic 227, 309, 2, 0), (177, .ireturn, 0, 0, 0)] : List zz_i))])
/-- 232: X12_whereBits whereBits(I)I  -/
def zm_232 : zz_MI := (⟨"OneStageTwoPlaysModel", "whereBits", "(I)I"⟩, prog_14_method_34_code, 4, (some .int), [(0, 4, ([(0, .iconst 0, 0, 0, 0), (1, .istore_n 2, 0, 0, 0), (2, .iconst 0, 0, 0, 0), (3, .istore_n 3, 0, 0, 0)] : List zz_i)),
  (4, 29, ([(4, .iload_n 3, 0, 0, 0), (5, .aload_n 0, 0, 0, 0), (6, .getfield 110, 11, 1, 0), (9, .if_icmp .ge 29, 0, 0, 0), (12, .iload_n 2, 0, 0, 0), (13, .aload_n 0, 0, 0, 0), (14, .getfield 9, 11, 0, 0), (17, .iload_n 3, 0, 0, 0), (18, .iaload, 0, 0, 0), (19, .iload_n 1, 0, 0, 0), (20, .if_icmp .ne 9, 0, 0, 0), (23, .iconst 1, 0, 0, 0), (24, .iload_n 3, 0, 0, 0), (25, .ishl, 0, 0, 0), (26, .goto 4, 0, 0, 0)] : List zz_i)),
  (29, 30, ([(29, .iconst 0, 0, 0, 0)] : List zz_i)),
  (30, 38, ([(30, .ior, 0, 0, 0), (31, .istore_n 2, 0, 0, 0), (32, .iinc 3 1, 0, 0, 0), (35, .goto (-31), 0, 0, 0)] : List zz_i)),
  (38, 40, ([(38, .iload_n 2, 0, 0, 0), (39, .ireturn, 0, 0, 0)] : List zz_i))])
/-- 233: X12_ofPlay ofPlay(II)I  -/
def zm_233 : zz_MI := (⟨"OneStageTwoPlaysModel", "ofPlay", "(II)I"⟩, prog_14_method_35_code, 5, (some .int), [(0, 5, ([(0, .iconst 0, 0, 0, 0), (1, .istore_n 3, 0, 0, 0), (2, .iconst 0, 0, 0, 0), (3, .istore 4, 0, 0, 0)] : List zz_i)),
  (5, 41, ([(5, .iload 4, 0, 0, 0), (7, .aload_n 0, 0, 0, 0), (8, .getfield 110, 11, 1, 0), (11, .if_icmp .ge 39, 0, 0, 0), (14, .iload_n 3, 0, 0, 0), (15, .iload_n 1, 0, 0, 0), (16, .iload 4, 0, 0, 0), (18, .invokestatic 230, 202, 2, 0), (21, .ifCond .eq 20, 0, 0, 0), (24, .aload_n 0, 0, 0, 0), (25, .iload 4, 0, 0, 0), (27, .invokevirtual 214, 208, 2, 11), (30, .iload_n 2, 0, 0, 0), (31, .if_icmp .ne 10, 0, 0, 0), (34, .iconst 1, 0, 0, 0), (35, .iload 4, 0, 0, 0), (37, .ishl, 0, 0, 0), (38, .goto 4, 0, 0, 0)] : List zz_i)),
  (41, 42, ([(41, .iconst 0, 0, 0, 0)] : List zz_i)),
  (42, 50, ([(42, .ior, 0, 0, 0), (43, .istore_n 3, 0, 0, 0), (44, .iinc 4 1, 0, 0, 0), (47, .goto (-42), 0, 0, 0)] : List zz_i)),
  (50, 52, ([(50, .iload_n 3, 0, 0, 0), (51, .ireturn, 0, 0, 0)] : List zz_i))])
/-- 234: X12_minutesOf minutesOf(I)I  -/
def zm_234 : zz_MI := (⟨"OneStageTwoPlaysModel", "minutesOf", "(I)I"⟩, prog_14_method_36_code, 4, (some .int), [(0, 4, ([(0, .iconst 0, 0, 0, 0), (1, .istore_n 2, 0, 0, 0), (2, .iconst 0, 0, 0, 0), (3, .istore_n 3, 0, 0, 0)] : List zz_i)),
  (4, 30, ([(4, .iload_n 3, 0, 0, 0), (5, .aload_n 0, 0, 0, 0), (6, .getfield 110, 11, 1, 0), (9, .if_icmp .ge 30, 0, 0, 0), (12, .iload_n 2, 0, 0, 0), (13, .iload_n 1, 0, 0, 0), (14, .iload_n 3, 0, 0, 0), (15, .invokestatic 230, 202, 2, 0), (18, .ifCond .eq 12, 0, 0, 0), (21, .aload_n 0, 0, 0, 0), (22, .iload_n 3, 0, 0, 0), (23, .iconst 1, 0, 0, 0), (24, .invokevirtual 117, 207, 3, 11), (27, .goto 4, 0, 0, 0)] : List zz_i)),
  (30, 31, ([(30, .iconst 0, 0, 0, 0)] : List zz_i)),
  (31, 39, ([(31, .iadd, 0, 0, 0), (32, .istore_n 2, 0, 0, 0), (33, .iinc 3 1, 0, 0, 0), (36, .goto (-32), 0, 0, 0)] : List zz_i)),
  (39, 41, ([(39, .iload_n 2, 0, 0, 0), (40, .ireturn, 0, 0, 0)] : List zz_i))])
/-- 235: X12_firstOf firstOf(I)I  -/
def zm_235 : zz_MI := (⟨"OneStageTwoPlaysModel", "firstOf", "(I)I"⟩, prog_14_method_37_code, 1, (some .int), [(0, 8, ([(0, .iload_n 0, 0, 0, 0), (1, .ifCond .ne 7, 0, 0, 0), (4, .iconst (-1), 0, 0, 0), (5, .goto 7, 0, 0, 0)] : List zz_i)),
  (8, 12, ([(8, .iload_n 0, 0, 0, 0), (9, .invokestatic 234, 307, 1, 0)] : List zz_i)),
  (12, 13, ([(12, .ireturn, 0, 0, 0)] : List zz_i))])
/-- 236: X12_nextOf nextOf([II)I  -/
def zm_236 : zz_MI := (⟨"OneStageTwoPlaysModel", "nextOf", "([II)I"⟩, prog_14_method_38_code, 4, (some .int), [(0, 2, ([(0, .iconst 0, 0, 0, 0), (1, .istore_n 3, 0, 0, 0)] : List zz_i)),
  (2, 27, ([(2, .iload_n 3, 0, 0, 0), (3, .aload_n 0, 0, 0, 0), (4, .getfield 110, 11, 1, 0), (7, .if_icmp .ge 26, 0, 0, 0), (10, .aload_n 1, 0, 0, 0), (11, .iload_n 3, 0, 0, 0), (12, .iaload, 0, 0, 0), (13, .ifCond .ne 14, 0, 0, 0), (16, .aload_n 0, 0, 0, 0), (17, .iload_n 3, 0, 0, 0), (18, .invokevirtual 214, 208, 2, 11), (21, .iload_n 2, 0, 0, 0), (22, .if_icmp .ne 5, 0, 0, 0), (25, .iload_n 3, 0, 0, 0), (26, .ireturn, 0, 0, 0)] : List zz_i)),
  (27, 33, ([(27, .iinc 3 1, 0, 0, 0), (30, .goto (-28), 0, 0, 0)] : List zz_i)),
  (33, 35, ([(33, .iconst (-1), 0, 0, 0), (34, .ireturn, 0, 0, 0)] : List zz_i))])
/-- 237: X12_scene scene(II)I  -/
def zm_237 : zz_MI := (⟨"OneStageTwoPlaysModel", "scene", "(II)I"⟩, prog_14_method_39_code, 3, (some .int), [(0, 23, ([(0, .aload_n 0, 0, 0, 0), (1, .iconst 0, 0, 0, 0), (2, .putfield 103, 11, 7, 0), (5, .aload_n 0, 0, 0, 0), (6, .iload_n 1, 0, 0, 0), (7, .invokevirtual 237, 205, 2, 11), (10, .ifCond .eq 13, 0, 0, 0), (13, .iload_n 2, 0, 0, 0), (14, .iconst 0, 0, 0, 0), (15, .bipush 7, 0, 0, 0), (17, .invokestatic 113, 201, 3, 0), (20, .ifCond .ne 8, 0, 0, 0)] : List zz_i)),
  (23, 28, ([(23, .aload_n 0, 0, 0, 0), (24, .invokevirtual 241, 203, 1, 11), (27, .ireturn, 0, 0, 0)] : List zz_i)),
  (28, 43, ([(28, .iload_n 2, 0, 0, 0), (29, .bipush 7, 0, 0, 0), (31, .if_icmp .ge 12, 0, 0, 0), (34, .aload_n 0, 0, 0, 0), (35, .iload_n 1, 0, 0, 0), (36, .iload_n 2, 0, 0, 0), (37, .invokevirtual 117, 207, 3, 11), (40, .goto 9, 0, 0, 0)] : List zz_i)),
  (43, 49, ([(43, .aload_n 0, 0, 0, 0), (44, .getfield 9, 11, 0, 0), (47, .iload_n 1, 0, 0, 0), (48, .iaload, 0, 0, 0)] : List zz_i)),
  (49, 50, ([(49, .ireturn, 0, 0, 0)] : List zz_i))])
/-- 238: X12_play play(II)I  -/
def zm_238 : zz_MI := (⟨"OneStageTwoPlaysModel", "play", "(II)I"⟩, prog_14_method_40_code, 3, (some .int), [(0, 22, ([(0, .aload_n 0, 0, 0, 0), (1, .iconst 0, 0, 0, 0), (2, .putfield 103, 11, 7, 0), (5, .iload_n 1, 0, 0, 0), (6, .invokestatic 244, 206, 1, 0), (9, .ifCond .eq 13, 0, 0, 0), (12, .iload_n 2, 0, 0, 0), (13, .iconst 0, 0, 0, 0), (14, .bipush 6, 0, 0, 0), (16, .invokestatic 113, 201, 3, 0), (19, .ifCond .ne 8, 0, 0, 0)] : List zz_i)),
  (22, 27, ([(22, .aload_n 0, 0, 0, 0), (23, .invokevirtual 241, 203, 1, 11), (26, .ireturn, 0, 0, 0)] : List zz_i)),
  (27, 68, ([(27, .iload_n 2, 0, 0, 0), (28, .tableswitch 81 0 5 #[40, 40, 40, 51, 61, 71], 0, 0, 40)] : List zz_i)),
  (68, 79, ([(68, .aload_n 0, 0, 0, 0), (69, .aload_n 0, 0, 0, 0), (70, .iload_n 2, 0, 0, 0), (71, .invokevirtual 247, 232, 2, 11), (74, .iload_n 1, 0, 0, 0), (75, .invokevirtual 250, 233, 3, 11), (78, .ireturn, 0, 0, 0)] : List zz_i)),
  (79, 89, ([(79, .aload_n 0, 0, 0, 0), (80, .getfield 9, 11, 0, 0), (83, .bipush 14, 0, 0, 0), (85, .iload_n 1, 0, 0, 0), (86, .iadd, 0, 0, 0), (87, .iaload, 0, 0, 0), (88, .ireturn, 0, 0, 0)] : List zz_i)),
  (89, 99, ([(89, .aload_n 0, 0, 0, 0), (90, .getfield 9, 11, 0, 0), (93, .bipush 16, 0, 0, 0), (95, .iload_n 1, 0, 0, 0), (96, .iadd, 0, 0, 0), (97, .iaload, 0, 0, 0), (98, .ireturn, 0, 0, 0)] : List zz_i)),
  (99, 109, ([(99, .aload_n 0, 0, 0, 0), (100, .aload_n 0, 0, 0, 0), (101, .getfield 9, 11, 0, 0), (104, .iload_n 1, 0, 0, 0), (105, .invokevirtual 253, 236, 3, 11), (108, .ireturn, 0, 0, 0)] : List zz_i)),
  (109, 124, ([(109, .aload_n 0, 0, 0, 0), (110, .aload_n 0, 0, 0, 0), (111, .aload_n 0, 0, 0, 0), (112, .iconst 0, 0, 0, 0), (113, .invokevirtual 247, 232, 2, 11), (116, .iload_n 1, 0, 0, 0), (117, .invokevirtual 250, 233, 3, 11), (120, .invokevirtual 257, 234, 2, 11), (123, .ireturn, 0, 0, 0)] : List zz_i))])
/-- 239: X12_sheet sheet(IIII)I  -/
def zm_239 : zz_MI := (⟨"OneStageTwoPlaysModel", "sheet", "(IIII)I"⟩, prog_14_method_41_code, 10, (some .int), [(0, 20, ([(0, .aload_n 0, 0, 0, 0), (1, .iconst 0, 0, 0, 0), (2, .putfield 103, 11, 7, 0), (5, .iload_n 1, 0, 0, 0), (6, .iconst 0, 0, 0, 0), (7, .iconst 3, 0, 0, 0), (8, .invokestatic 113, 201, 3, 0), (11, .ifCond .eq 9, 0, 0, 0), (14, .iload_n 2, 0, 0, 0), (15, .bipush 12, 0, 0, 0), (17, .if_icmp .le 5, 0, 0, 0)] : List zz_i)),
  (20, 22, ([(20, .iconst (-1), 0, 0, 0), (21, .ireturn, 0, 0, 0)] : List zz_i)),
  (22, 34, ([(22, .iload_n 1, 0, 0, 0), (23, .iconst 3, 0, 0, 0), (24, .if_icmp .ge 10, 0, 0, 0), (27, .iload_n 2, 0, 0, 0), (28, .ifCond .ge 6, 0, 0, 0), (31, .bipush (-2), 0, 0, 0), (33, .ireturn, 0, 0, 0)] : List zz_i)),
  (34, 43, ([(34, .iconst 0, 0, 0, 0), (35, .istore 5, 0, 0, 0), (37, .iload_n 3, 0, 0, 0), (38, .istore 6, 0, 0, 0), (40, .iconst 0, 0, 0, 0), (41, .istore 7, 0, 0, 0)] : List zz_i)),
  (43, 62, ([(43, .iload 7, 0, 0, 0), (45, .aload_n 0, 0, 0, 0), (46, .getfield 110, 11, 1, 0), (49, .if_icmp .ge 90, 0, 0, 0), (52, .iload_n 1, 0, 0, 0), (53, .ifCond .ne 9, 0, 0, 0), (56, .iload 6, 0, 0, 0), (58, .i2b, 0, 0, 0), (59, .goto 16, 0, 0, 0)] : List zz_i)),
  (62, 73, ([(62, .iload_n 1, 0, 0, 0), (63, .iconst 1, 0, 0, 0), (64, .if_icmp .ne 9, 0, 0, 0), (67, .iload 6, 0, 0, 0), (69, .i2s, 0, 0, 0), (70, .goto 5, 0, 0, 0)] : List zz_i)),
  (73, 75, ([(73, .iload 6, 0, 0, 0)] : List zz_i)),
  (75, 88, ([(75, .istore 8, 0, 0, 0), (77, .iload_n 1, 0, 0, 0), (78, .iconst 3, 0, 0, 0), (79, .if_icmp .eq 9, 0, 0, 0), (82, .iload 7, 0, 0, 0), (84, .iload_n 2, 0, 0, 0), (85, .if_icmp .lt 7, 0, 0, 0)] : List zz_i)),
  (88, 92, ([(88, .iconst 1, 0, 0, 0), (89, .goto 14, 0, 0, 0)] : List zz_i)),
  (92, 103, ([(92, .iconst 1, 0, 0, 0), (93, .bipush 9, 0, 0, 0), (95, .iload 8, 0, 0, 0), (97, .invokestatic 222, 310, 2, 0), (100, .invokestatic 227, 309, 2, 0)] : List zz_i)),
  (103, 139, ([(103, .istore 9, 0, 0, 0), (105, .aload_n 0, 0, 0, 0), (106, .getfield 13, 11, 2, 0), (109, .bipush 7, 0, 0, 0), (111, .iload 7, 0, 0, 0), (113, .imul, 0, 0, 0), (114, .iconst 1, 0, 0, 0), (115, .iadd, 0, 0, 0), (116, .iload 9, 0, 0, 0), (118, .iastore, 0, 0, 0), (119, .iload 5, 0, 0, 0), (121, .iload 9, 0, 0, 0), (123, .iadd, 0, 0, 0), (124, .istore 5, 0, 0, 0), (126, .iload 6, 0, 0, 0), (128, .iload 4, 0, 0, 0), (130, .iadd, 0, 0, 0), (131, .istore 6, 0, 0, 0), (133, .iinc 7 1, 0, 0, 0), (136, .goto (-93), 0, 0, 0)] : List zz_i)),
  (139, 149, ([(139, .iload_n 1, 0, 0, 0), (140, .iconst 3, 0, 0, 0), (141, .if_icmp .ne 8, 0, 0, 0), (144, .bipush (-3), 0, 0, 0), (146, .goto 5, 0, 0, 0)] : List zz_i)),
  (149, 151, ([(149, .iload 5, 0, 0, 0)] : List zz_i)),
  (151, 152, ([(151, .ireturn, 0, 0, 0)] : List zz_i))])
/-- 240: X12_lay lay([I[II)V  -/
def zm_240 : zz_MI := (⟨"OneStageTwoPlaysModel", "lay", "([I[II)V"⟩, prog_14_method_42_code, 4, none, [(0, 2, ([(0, .iconst 0, 0, 0, 0), (1, .istore_n 3, 0, 0, 0)] : List zz_i)),
  (2, 22, ([(2, .iload_n 3, 0, 0, 0), (3, .bipush 18, 0, 0, 0), (5, .if_icmp .ge 17, 0, 0, 0), (8, .aload_n 1, 0, 0, 0), (9, .iload_n 2, 0, 0, 0), (10, .iload_n 3, 0, 0, 0), (11, .iadd, 0, 0, 0), (12, .aload_n 0, 0, 0, 0), (13, .iload_n 3, 0, 0, 0), (14, .iaload, 0, 0, 0), (15, .iastore, 0, 0, 0), (16, .iinc 3 1, 0, 0, 0), (19, .goto (-17), 0, 0, 0)] : List zz_i)),
  (22, 23, ([(22, .return_, 0, 0, 0)] : List zz_i))])
/-- 241: X12_remember remember([I)V  -/
def zm_241 : zz_MI := (⟨"OneStageTwoPlaysModel", "remember", "([I)V"⟩, prog_14_method_43_code, 3, none, [(0, 11, ([(0, .aload_n 0, 0, 0, 0), (1, .getfield 179, 11, 20, 0), (4, .bipush 12, 0, 0, 0), (6, .if_icmp .ne 43, 0, 0, 0), (9, .iconst 0, 0, 0, 0), (10, .istore_n 2, 0, 0, 0)] : List zz_i)),
  (11, 39, ([(11, .iload_n 2, 0, 0, 0), (12, .sipush 198, 0, 0, 0), (15, .if_icmp .ge 24, 0, 0, 0), (18, .aload_n 0, 0, 0, 0), (19, .getfield 36, 11, 19, 0), (22, .iload_n 2, 0, 0, 0), (23, .aload_n 0, 0, 0, 0), (24, .getfield 36, 11, 19, 0), (27, .iload_n 2, 0, 0, 0), (28, .bipush 18, 0, 0, 0), (30, .iadd, 0, 0, 0), (31, .iaload, 0, 0, 0), (32, .iastore, 0, 0, 0), (33, .iinc 2 1, 0, 0, 0), (36, .goto (-25), 0, 0, 0)] : List zz_i)),
  (39, 49, ([(39, .aload_n 0, 0, 0, 0), (40, .dup, 0, 0, 0), (41, .getfield 179, 11, 20, 0), (44, .iconst 1, 0, 0, 0), (45, .isub, 0, 0, 0), (46, .putfield 179, 11, 20, 0)] : List zz_i)),
  (49, 75, ([(49, .aload_n 1, 0, 0, 0), (50, .aload_n 0, 0, 0, 0), (51, .getfield 36, 11, 19, 0), (54, .bipush 18, 0, 0, 0), (56, .aload_n 0, 0, 0, 0), (57, .getfield 179, 11, 20, 0), (60, .imul, 0, 0, 0), (61, .invokestatic 260, 240, 3, 0), (64, .aload_n 0, 0, 0, 0), (65, .dup, 0, 0, 0), (66, .getfield 179, 11, 20, 0), (69, .iconst 1, 0, 0, 0), (70, .iadd, 0, 0, 0), (71, .putfield 179, 11, 20, 0), (74, .return_, 0, 0, 0)] : List zz_i))])
/-- 242: X12_behind behind([II)I  -/
def zm_242 : zz_MI := (⟨"OneStageTwoPlaysModel", "behind", "([II)I"⟩, prog_14_method_44_code, 3, (some .int), [(0, 12, ([(0, .aload_n 1, 0, 0, 0), (1, .bipush 13, 0, 0, 0), (3, .iaload, 0, 0, 0), (4, .iconst (-1), 0, 0, 0), (5, .if_icmp .ne 7, 0, 0, 0), (8, .iconst 0, 0, 0, 0), (9, .goto 12, 0, 0, 0)] : List zz_i)),
  (12, 21, ([(12, .aload_n 0, 0, 0, 0), (13, .aload_n 1, 0, 0, 0), (14, .bipush 13, 0, 0, 0), (16, .iaload, 0, 0, 0), (17, .iload_n 2, 0, 0, 0), (18, .invokevirtual 264, 231, 3, 11)] : List zz_i)),
  (21, 22, ([(21, .ireturn, 0, 0, 0)] : List zz_i))])
/-- 243: X12_knownBy knownBy(II)I  -/
def zm_243 : zz_MI := (⟨"OneStageTwoPlaysModel", "knownBy", "(II)I"⟩, prog_14_method_45_code, 3, (some .int), [(0, 14, ([(0, .aload_n 0, 0, 0, 0), (1, .iload_n 2, 0, 0, 0), (2, .iconst 4, 0, 0, 0), (3, .invokevirtual 117, 207, 3, 11), (6, .iconst (-1), 0, 0, 0), (7, .if_icmp .ne 7, 0, 0, 0), (10, .iload_n 1, 0, 0, 0), (11, .goto 13, 0, 0, 0)] : List zz_i)),
  (14, 24, ([(14, .iload_n 1, 0, 0, 0), (15, .iconst 1, 0, 0, 0), (16, .aload_n 0, 0, 0, 0), (17, .iload_n 2, 0, 0, 0), (18, .iconst 4, 0, 0, 0), (19, .invokevirtual 117, 207, 3, 11), (22, .ishl, 0, 0, 0), (23, .ior, 0, 0, 0)] : List zz_i)),
  (24, 25, ([(24, .ireturn, 0, 0, 0)] : List zz_i))])
/-- 244: X12_doesClash doesClash(II)Z  -/
def zm_244 : zz_MI := (⟨"OneStageTwoPlaysModel", "doesClash", "(II)Z"⟩, prog_14_method_46_code, 3, (some .boolean), [(0, 27, ([(0, .aload_n 0, 0, 0, 0), (1, .iload_n 2, 0, 0, 0), (2, .iconst 5, 0, 0, 0), (3, .invokevirtual 117, 207, 3, 11), (6, .iconst (-1), 0, 0, 0), (7, .if_icmp .eq 20, 0, 0, 0), (10, .iload_n 1, 0, 0, 0), (11, .aload_n 0, 0, 0, 0), (12, .iload_n 2, 0, 0, 0), (13, .iconst 5, 0, 0, 0), (14, .invokevirtual 117, 207, 3, 11), (17, .invokestatic 230, 202, 2, 0), (20, .ifCond .ne 7, 0, 0, 0), (23, .iconst 1, 0, 0, 0), (24, .goto 4, 0, 0, 0)] : List zz_i)),
  (27, 28, ([(27, .iconst 0, 0, 0, 0)] : List zz_i)),
  (28, 29, ([(28, .ireturn, 0, 0, 0)] : List zz_i))])
/-- 245: X12_brings brings(II)I  -/
def zm_245 : zz_MI := (⟨"OneStageTwoPlaysModel", "brings", "(II)I"⟩, prog_14_method_47_code, 3, (some .int), [(0, 21, ([(0, .aload_n 0, 0, 0, 0), (1, .iload_n 1, 0, 0, 0), (2, .iload_n 2, 0, 0, 0), (3, .invokevirtual 267, 244, 3, 11), (6, .ifCond .eq 15, 0, 0, 0), (9, .aload_n 0, 0, 0, 0), (10, .iload_n 2, 0, 0, 0), (11, .bipush 6, 0, 0, 0), (13, .invokevirtual 117, 207, 3, 11), (16, .iconst 2, 0, 0, 0), (17, .idiv, 0, 0, 0), (18, .goto 10, 0, 0, 0)] : List zz_i)),
  (21, 28, ([(21, .aload_n 0, 0, 0, 0), (22, .iload_n 2, 0, 0, 0), (23, .bipush 6, 0, 0, 0), (25, .invokevirtual 117, 207, 3, 11)] : List zz_i)),
  (28, 29, ([(28, .ireturn, 0, 0, 0)] : List zz_i))])
/-- 246: X12_goPlay goPlay([II)I  -/
def zm_246 : zz_MI := (⟨"OneStageTwoPlaysModel", "goPlay", "([II)I"⟩, prog_14_method_48_code, 5, (some .int), [(0, 79, ([(0, .aload_n 0, 0, 0, 0), (1, .iload_n 2, 0, 0, 0), (2, .invokevirtual 214, 208, 2, 11), (5, .istore_n 3, 0, 0, 0), (6, .aload_n 1, 0, 0, 0), (7, .bipush 12, 0, 0, 0), (9, .dup2, 0, 0, 0), (10, .iaload, 0, 0, 0), (11, .aload_n 0, 0, 0, 0), (12, .aload_n 1, 0, 0, 0), (13, .iload_n 2, 0, 0, 0), (14, .invokevirtual 270, 242, 3, 11), (17, .aload_n 0, 0, 0, 0), (18, .iload_n 2, 0, 0, 0), (19, .iconst 1, 0, 0, 0), (20, .invokevirtual 117, 207, 3, 11), (23, .iadd, 0, 0, 0), (24, .iadd, 0, 0, 0), (25, .iastore, 0, 0, 0), (26, .aload_n 0, 0, 0, 0), (27, .aload_n 1, 0, 0, 0), (28, .bipush 14, 0, 0, 0), (30, .iload_n 3, 0, 0, 0), (31, .iadd, 0, 0, 0), (32, .iaload, 0, 0, 0), (33, .iload_n 2, 0, 0, 0), (34, .invokevirtual 273, 245, 3, 11), (37, .istore 4, 0, 0, 0), (39, .aload_n 1, 0, 0, 0), (40, .bipush 14, 0, 0, 0), (42, .iload_n 3, 0, 0, 0), (43, .iadd, 0, 0, 0), (44, .aload_n 0, 0, 0, 0), (45, .aload_n 1, 0, 0, 0), (46, .bipush 14, 0, 0, 0), (48, .iload_n 3, 0, 0, 0), (49, .iadd, 0, 0, 0), (50, .iaload, 0, 0, 0), (51, .iload_n 2, 0, 0, 0), (52, .invokevirtual 276, 243, 3, 11), (55, .iastore, 0, 0, 0), (56, .aload_n 1, 0, 0, 0), (57, .bipush 16, 0, 0, 0), (59, .iload_n 3, 0, 0, 0), (60, .iadd, 0, 0, 0), (61, .dup2, 0, 0, 0), (62, .iaload, 0, 0, 0), (63, .iload 4, 0, 0, 0), (65, .iadd, 0, 0, 0), (66, .iastore, 0, 0, 0), (67, .aload_n 1, 0, 0, 0), (68, .iload_n 2, 0, 0, 0), (69, .iconst 1, 0, 0, 0), (70, .iastore, 0, 0, 0), (71, .aload_n 1, 0, 0, 0), (72, .bipush 13, 0, 0, 0), (74, .iload_n 2, 0, 0, 0), (75, .iastore, 0, 0, 0), (76, .iload 4, 0, 0, 0), (78, .ireturn, 0, 0, 0)] : List zz_i))])
/-- 247: X12_plays plays(I)I  -/
def zm_247 : zz_MI := (⟨"OneStageTwoPlaysModel", "plays", "(I)I"⟩, prog_14_method_49_code, 5, (some .int), [(0, 14, ([(0, .aload_n 0, 0, 0, 0), (1, .iconst 0, 0, 0, 0), (2, .putfield 103, 11, 7, 0), (5, .iload_n 1, 0, 0, 0), (6, .invokestatic 244, 206, 1, 0), (9, .ifCond .ne 5, 0, 0, 0), (12, .iconst (-1), 0, 0, 0), (13, .ireturn, 0, 0, 0)] : List zz_i)),
  (14, 32, ([(14, .aload_n 0, 0, 0, 0), (15, .aload_n 0, 0, 0, 0), (16, .getfield 9, 11, 0, 0), (19, .iload_n 1, 0, 0, 0), (20, .invokevirtual 253, 236, 3, 11), (23, .istore_n 2, 0, 0, 0), (24, .iload_n 2, 0, 0, 0), (25, .iconst (-1), 0, 0, 0), (26, .if_icmp .ne 6, 0, 0, 0), (29, .bipush (-2), 0, 0, 0), (31, .ireturn, 0, 0, 0)] : List zz_i)),
  (32, 93, ([(32, .aload_n 0, 0, 0, 0), (33, .aload_n 0, 0, 0, 0), (34, .getfield 9, 11, 0, 0), (37, .invokevirtual 279, 241, 2, 11), (40, .aload_n 0, 0, 0, 0), (41, .aload_n 0, 0, 0, 0), (42, .getfield 9, 11, 0, 0), (45, .iload_n 2, 0, 0, 0), (46, .invokevirtual 270, 242, 3, 11), (49, .istore_n 3, 0, 0, 0), (50, .aload_n 0, 0, 0, 0), (51, .aload_n 0, 0, 0, 0), (52, .getfield 9, 11, 0, 0), (55, .iload_n 2, 0, 0, 0), (56, .invokevirtual 283, 246, 3, 11), (59, .istore 4, 0, 0, 0), (61, .aload_n 0, 0, 0, 0), (62, .iconst 0, 0, 0, 0), (63, .putfield 107, 11, 6, 0), (66, .aload_n 0, 0, 0, 0), (67, .iload_n 2, 0, 0, 0), (68, .i2l, 0, 0, 0), (69, .invokevirtual 286, 204, 2, 11), (72, .aload_n 0, 0, 0, 0), (73, .iload_n 3, 0, 0, 0), (74, .i2l, 0, 0, 0), (75, .invokevirtual 286, 204, 2, 11), (78, .aload_n 0, 0, 0, 0), (79, .iload 4, 0, 0, 0), (81, .i2l, 0, 0, 0), (82, .invokevirtual 286, 204, 2, 11), (85, .aload_n 0, 0, 0, 0), (86, .getfield 9, 11, 0, 0), (89, .bipush 12, 0, 0, 0), (91, .iaload, 0, 0, 0), (92, .ireturn, 0, 0, 0)] : List zz_i))])
/-- 248: X12_left left(I)I  -/
def zm_248 : zz_MI := (⟨"OneStageTwoPlaysModel", "left", "(I)I"⟩, prog_14_method_50_code, 2, (some .int), [(0, 14, ([(0, .aload_n 0, 0, 0, 0), (1, .aload_n 0, 0, 0, 0), (2, .iconst 0, 0, 0, 0), (3, .invokevirtual 247, 232, 2, 11), (6, .iload_n 1, 0, 0, 0), (7, .invokevirtual 250, 233, 3, 11), (10, .invokestatic 217, 308, 1, 0), (13, .ireturn, 0, 0, 0)] : List zz_i))])
/-- 249: X12_cut cut(I)I  -/
def zm_249 : zz_MI := (⟨"OneStageTwoPlaysModel", "cut", "(I)I"⟩, prog_14_method_51_code, 2, (some .int), [(0, 15, ([(0, .aload_n 0, 0, 0, 0), (1, .iconst 0, 0, 0, 0), (2, .putfield 103, 11, 7, 0), (5, .aload_n 0, 0, 0, 0), (6, .iload_n 1, 0, 0, 0), (7, .invokevirtual 237, 205, 2, 11), (10, .ifCond .ne 5, 0, 0, 0), (13, .iconst (-1), 0, 0, 0), (14, .ireturn, 0, 0, 0)] : List zz_i)),
  (15, 27, ([(15, .aload_n 0, 0, 0, 0), (16, .getfield 9, 11, 0, 0), (19, .iload_n 1, 0, 0, 0), (20, .iaload, 0, 0, 0), (21, .ifCond .eq 6, 0, 0, 0), (24, .bipush (-2), 0, 0, 0), (26, .ireturn, 0, 0, 0)] : List zz_i)),
  (27, 52, ([(27, .aload_n 0, 0, 0, 0), (28, .aload_n 0, 0, 0, 0), (29, .getfield 9, 11, 0, 0), (32, .invokevirtual 279, 241, 2, 11), (35, .aload_n 0, 0, 0, 0), (36, .getfield 9, 11, 0, 0), (39, .iload_n 1, 0, 0, 0), (40, .iconst 2, 0, 0, 0), (41, .iastore, 0, 0, 0), (42, .aload_n 0, 0, 0, 0), (43, .aload_n 0, 0, 0, 0), (44, .iload_n 1, 0, 0, 0), (45, .invokevirtual 214, 208, 2, 11), (48, .invokevirtual 290, 248, 2, 11), (51, .ireturn, 0, 0, 0)] : List zz_i))])
/-- 250: X12_puts puts(I)I  -/
def zm_250 : zz_MI := (⟨"OneStageTwoPlaysModel", "puts", "(I)I"⟩, prog_14_method_52_code, 3, (some .int), [(0, 15, ([(0, .aload_n 0, 0, 0, 0), (1, .iconst 0, 0, 0, 0), (2, .putfield 103, 11, 7, 0), (5, .aload_n 0, 0, 0, 0), (6, .iload_n 1, 0, 0, 0), (7, .invokevirtual 237, 205, 2, 11), (10, .ifCond .ne 5, 0, 0, 0), (13, .iconst (-1), 0, 0, 0), (14, .ireturn, 0, 0, 0)] : List zz_i)),
  (15, 28, ([(15, .aload_n 0, 0, 0, 0), (16, .getfield 9, 11, 0, 0), (19, .iload_n 1, 0, 0, 0), (20, .iaload, 0, 0, 0), (21, .iconst 2, 0, 0, 0), (22, .if_icmp .eq 6, 0, 0, 0), (25, .bipush (-2), 0, 0, 0), (27, .ireturn, 0, 0, 0)] : List zz_i)),
  (28, 32, ([(28, .iload_n 1, 0, 0, 0), (29, .iconst 1, 0, 0, 0), (30, .iadd, 0, 0, 0), (31, .istore_n 2, 0, 0, 0)] : List zz_i)),
  (32, 66, ([(32, .iload_n 2, 0, 0, 0), (33, .aload_n 0, 0, 0, 0), (34, .getfield 110, 11, 1, 0), (37, .if_icmp .ge 35, 0, 0, 0), (40, .aload_n 0, 0, 0, 0), (41, .iload_n 2, 0, 0, 0), (42, .invokevirtual 214, 208, 2, 11), (45, .aload_n 0, 0, 0, 0), (46, .iload_n 1, 0, 0, 0), (47, .invokevirtual 214, 208, 2, 11), (50, .if_icmp .ne 16, 0, 0, 0), (53, .aload_n 0, 0, 0, 0), (54, .getfield 9, 11, 0, 0), (57, .iload_n 2, 0, 0, 0), (58, .iaload, 0, 0, 0), (59, .iconst 1, 0, 0, 0), (60, .if_icmp .ne 6, 0, 0, 0), (63, .bipush (-3), 0, 0, 0), (65, .ireturn, 0, 0, 0)] : List zz_i)),
  (66, 72, ([(66, .iinc 2 1, 0, 0, 0), (69, .goto (-37), 0, 0, 0)] : List zz_i)),
  (72, 97, ([(72, .aload_n 0, 0, 0, 0), (73, .aload_n 0, 0, 0, 0), (74, .getfield 9, 11, 0, 0), (77, .invokevirtual 279, 241, 2, 11), (80, .aload_n 0, 0, 0, 0), (81, .getfield 9, 11, 0, 0), (84, .iload_n 1, 0, 0, 0), (85, .iconst 0, 0, 0, 0), (86, .iastore, 0, 0, 0), (87, .aload_n 0, 0, 0, 0), (88, .aload_n 0, 0, 0, 0), (89, .iload_n 1, 0, 0, 0), (90, .invokevirtual 214, 208, 2, 11), (93, .invokevirtual 290, 248, 2, 11), (96, .ireturn, 0, 0, 0)] : List zz_i))])
/-- 251: X12_pause pause(I)I  -/
def zm_251 : zz_MI := (⟨"OneStageTwoPlaysModel", "pause", "(I)I"⟩, prog_14_method_53_code, 2, (some .int), [(0, 17, ([(0, .aload_n 0, 0, 0, 0), (1, .iconst 0, 0, 0, 0), (2, .putfield 103, 11, 7, 0), (5, .iload_n 1, 0, 0, 0), (6, .iconst 0, 0, 0, 0), (7, .bipush 99, 0, 0, 0), (9, .invokestatic 113, 201, 3, 0), (12, .ifCond .ne 5, 0, 0, 0), (15, .iconst (-1), 0, 0, 0), (16, .ireturn, 0, 0, 0)] : List zz_i)),
  (17, 29, ([(17, .iload_n 1, 0, 0, 0), (18, .ifCond .le 11, 0, 0, 0), (21, .aload_n 0, 0, 0, 0), (22, .aload_n 0, 0, 0, 0), (23, .getfield 9, 11, 0, 0), (26, .invokevirtual 279, 241, 2, 11)] : List zz_i)),
  (29, 48, ([(29, .aload_n 0, 0, 0, 0), (30, .getfield 9, 11, 0, 0), (33, .bipush 12, 0, 0, 0), (35, .dup2, 0, 0, 0), (36, .iaload, 0, 0, 0), (37, .iload_n 1, 0, 0, 0), (38, .iadd, 0, 0, 0), (39, .iastore, 0, 0, 0), (40, .aload_n 0, 0, 0, 0), (41, .getfield 9, 11, 0, 0), (44, .bipush 12, 0, 0, 0), (46, .iaload, 0, 0, 0), (47, .ireturn, 0, 0, 0)] : List zz_i))])
/-- 252: X12_evening evening()I  -/
def zm_252 : zz_MI := (⟨"OneStageTwoPlaysModel", "evening", "()I"⟩, prog_14_method_54_code, 3, (some .int), [(0, 13, ([(0, .aload_n 0, 0, 0, 0), (1, .iconst 0, 0, 0, 0), (2, .putfield 103, 11, 7, 0), (5, .aload_n 0, 0, 0, 0), (6, .bipush 60, 0, 0, 0), (8, .invokevirtual 170, 212, 2, 11), (11, .iconst 0, 0, 0, 0), (12, .istore_n 1, 0, 0, 0)] : List zz_i)),
  (13, 44, ([(13, .aload_n 0, 0, 0, 0), (14, .invokevirtual 143, 214, 1, 11), (17, .ifCond .eq 27, 0, 0, 0), (20, .aload_n 0, 0, 0, 0), (21, .getfield 133, 11, 11, 0), (24, .aload_n 0, 0, 0, 0), (25, .getfield 127, 11, 9, 0), (28, .if_icmp .ge 16, 0, 0, 0), (31, .aload_n 0, 0, 0, 0), (32, .iconst 2, 0, 0, 0), (33, .iload_n 1, 0, 0, 0), (34, .imul, 0, 0, 0), (35, .invokevirtual 293, 253, 2, 11), (38, .iinc 1 1, 0, 0, 0), (41, .goto (-28), 0, 0, 0)] : List zz_i)),
  (44, 58, ([(44, .aload_n 0, 0, 0, 0), (45, .invokevirtual 176, 221, 1, 11), (48, .ifCond .ne 10, 0, 0, 0), (51, .iconst (-1), 0, 0, 0), (52, .aload_n 0, 0, 0, 0), (53, .getfield 136, 11, 12, 0), (56, .isub, 0, 0, 0), (57, .ireturn, 0, 0, 0)] : List zz_i)),
  (58, 72, ([(58, .aload_n 0, 0, 0, 0), (59, .getfield 9, 11, 0, 0), (62, .aload_n 0, 0, 0, 0), (63, .getfield 39, 11, 21, 0), (66, .iconst 0, 0, 0, 0), (67, .invokestatic 260, 240, 3, 0), (70, .iconst 0, 0, 0, 0), (71, .istore_n 2, 0, 0, 0)] : List zz_i)),
  (72, 108, ([(72, .iload_n 2, 0, 0, 0), (73, .iload_n 1, 0, 0, 0), (74, .if_icmp .ge 34, 0, 0, 0), (77, .aload_n 0, 0, 0, 0), (78, .aload_n 0, 0, 0, 0), (79, .getfield 45, 11, 23, 0), (82, .iconst 2, 0, 0, 0), (83, .iload_n 2, 0, 0, 0), (84, .imul, 0, 0, 0), (85, .iaload, 0, 0, 0), (86, .aload_n 0, 0, 0, 0), (87, .getfield 45, 11, 23, 0), (90, .iconst 2, 0, 0, 0), (91, .iload_n 2, 0, 0, 0), (92, .imul, 0, 0, 0), (93, .iconst 1, 0, 0, 0), (94, .iadd, 0, 0, 0), (95, .iaload, 0, 0, 0), (96, .invokevirtual 296, 254, 3, 11), (99, .ifCond .eq 9, 0, 0, 0), (102, .iinc 2 1, 0, 0, 0), (105, .goto (-33), 0, 0, 0)] : List zz_i)),
  (108, 120, ([(108, .iload_n 2, 0, 0, 0), (109, .ifCond .le 11, 0, 0, 0), (112, .aload_n 0, 0, 0, 0), (113, .aload_n 0, 0, 0, 0), (114, .getfield 39, 11, 21, 0), (117, .invokevirtual 279, 241, 2, 11)] : List zz_i)),
  (120, 135, ([(120, .aload_n 0, 0, 0, 0), (121, .iconst 0, 0, 0, 0), (122, .putfield 107, 11, 6, 0), (125, .aload_n 0, 0, 0, 0), (126, .iload_n 2, 0, 0, 0), (127, .iload_n 1, 0, 0, 0), (128, .if_icmp .ge 7, 0, 0, 0), (131, .lconst 1, 0, 0, 0), (132, .goto 4, 0, 0, 0)] : List zz_i)),
  (135, 136, ([(135, .lconst 0, 0, 0, 0)] : List zz_i)),
  (136, 153, ([(136, .invokevirtual 286, 204, 2, 11), (139, .aload_n 0, 0, 0, 0), (140, .aload_n 0, 0, 0, 0), (141, .getfield 9, 11, 0, 0), (144, .bipush 12, 0, 0, 0), (146, .iaload, 0, 0, 0), (147, .i2l, 0, 0, 0), (148, .invokevirtual 286, 204, 2, 11), (151, .iload_n 2, 0, 0, 0), (152, .ireturn, 0, 0, 0)] : List zz_i))])
/-- 253: X12_readAct readAct(I)V  -/
def zm_253 : zz_MI := (⟨"OneStageTwoPlaysModel", "readAct", "(I)V"⟩, prog_14_method_55_code, 3, none, [(0, 38, ([(0, .aload_n 0, 0, 0, 0), (1, .invokevirtual 147, 213, 1, 11), (4, .istore_n 2, 0, 0, 0), (5, .iload_n 2, 0, 0, 0), (6, .bipush 48, 0, 0, 0), (8, .if_icmp .eq 30, 0, 0, 0), (11, .iload_n 2, 0, 0, 0), (12, .bipush 49, 0, 0, 0), (14, .if_icmp .eq 24, 0, 0, 0), (17, .iload_n 2, 0, 0, 0), (18, .bipush 120, 0, 0, 0), (20, .if_icmp .eq 18, 0, 0, 0), (23, .iload_n 2, 0, 0, 0), (24, .bipush 119, 0, 0, 0), (26, .if_icmp .eq 12, 0, 0, 0), (29, .aload_n 0, 0, 0, 0), (30, .aload_n 0, 0, 0, 0), (31, .getfield 133, 11, 11, 0), (34, .invokevirtual 155, 215, 2, 11), (37, .return_, 0, 0, 0)] : List zz_i)),
  (38, 77, ([(38, .aload_n 0, 0, 0, 0), (39, .dup, 0, 0, 0), (40, .getfield 133, 11, 11, 0), (43, .iconst 1, 0, 0, 0), (44, .iadd, 0, 0, 0), (45, .putfield 133, 11, 11, 0), (48, .aload_n 0, 0, 0, 0), (49, .getfield 45, 11, 23, 0), (52, .iload_n 1, 0, 0, 0), (53, .iload_n 2, 0, 0, 0), (54, .iastore, 0, 0, 0), (55, .iload_n 2, 0, 0, 0), (56, .bipush 120, 0, 0, 0), (58, .if_icmp .ne 19, 0, 0, 0), (61, .aload_n 0, 0, 0, 0), (62, .getfield 45, 11, 23, 0), (65, .iload_n 1, 0, 0, 0), (66, .iconst 1, 0, 0, 0), (67, .iadd, 0, 0, 0), (68, .aload_n 0, 0, 0, 0), (69, .bipush 97, 0, 0, 0), (71, .bipush 12, 0, 0, 0), (73, .invokevirtual 159, 218, 3, 11), (76, .iastore, 0, 0, 0)] : List zz_i)),
  (77, 99, ([(77, .iload_n 2, 0, 0, 0), (78, .bipush 119, 0, 0, 0), (80, .if_icmp .ne 19, 0, 0, 0), (83, .aload_n 0, 0, 0, 0), (84, .getfield 45, 11, 23, 0), (87, .iload_n 1, 0, 0, 0), (88, .iconst 1, 0, 0, 0), (89, .iadd, 0, 0, 0), (90, .aload_n 0, 0, 0, 0), (91, .bipush 48, 0, 0, 0), (93, .bipush 10, 0, 0, 0), (95, .invokevirtual 159, 218, 3, 11), (98, .iastore, 0, 0, 0)] : List zz_i)),
  (99, 100, ([(99, .return_, 0, 0, 0)] : List zz_i))])
/-- 254: X12_act act(II)Z  -/
def zm_254 : zz_MI := (⟨"OneStageTwoPlaysModel", "act", "(II)Z"⟩, prog_14_method_56_code, 4, (some .boolean), [(0, 28, ([(0, .iload_n 1, 0, 0, 0), (1, .lookupswitch 68 #[(119, 55), (120, 27)], 0, 0, 27)] : List zz_i)),
  (28, 45, ([(28, .aload_n 0, 0, 0, 0), (29, .iload_n 2, 0, 0, 0), (30, .invokevirtual 237, 205, 2, 11), (33, .ifCond .eq 12, 0, 0, 0), (36, .aload_n 0, 0, 0, 0), (37, .getfield 9, 11, 0, 0), (40, .iload_n 2, 0, 0, 0), (41, .iaload, 0, 0, 0), (42, .ifCond .eq 5, 0, 0, 0)] : List zz_i)),
  (45, 47, ([(45, .iconst 0, 0, 0, 0), (46, .ireturn, 0, 0, 0)] : List zz_i)),
  (47, 56, ([(47, .aload_n 0, 0, 0, 0), (48, .getfield 9, 11, 0, 0), (51, .iload_n 2, 0, 0, 0), (52, .iconst 2, 0, 0, 0), (53, .iastore, 0, 0, 0), (54, .iconst 1, 0, 0, 0), (55, .ireturn, 0, 0, 0)] : List zz_i)),
  (56, 69, ([(56, .aload_n 0, 0, 0, 0), (57, .getfield 9, 11, 0, 0), (60, .bipush 12, 0, 0, 0), (62, .dup2, 0, 0, 0), (63, .iaload, 0, 0, 0), (64, .iload_n 2, 0, 0, 0), (65, .iadd, 0, 0, 0), (66, .iastore, 0, 0, 0), (67, .iconst 1, 0, 0, 0), (68, .ireturn, 0, 0, 0)] : List zz_i)),
  (69, 89, ([(69, .aload_n 0, 0, 0, 0), (70, .aload_n 0, 0, 0, 0), (71, .getfield 9, 11, 0, 0), (74, .iload_n 1, 0, 0, 0), (75, .bipush 48, 0, 0, 0), (77, .isub, 0, 0, 0), (78, .invokevirtual 253, 236, 3, 11), (81, .istore_n 3, 0, 0, 0), (82, .iload_n 3, 0, 0, 0), (83, .iconst (-1), 0, 0, 0), (84, .if_icmp .ne 5, 0, 0, 0), (87, .iconst 0, 0, 0, 0), (88, .ireturn, 0, 0, 0)] : List zz_i)),
  (89, 101, ([(89, .aload_n 0, 0, 0, 0), (90, .aload_n 0, 0, 0, 0), (91, .getfield 9, 11, 0, 0), (94, .iload_n 3, 0, 0, 0), (95, .invokevirtual 283, 246, 3, 11), (98, .pop, 0, 0, 0), (99, .iconst 1, 0, 0, 0), (100, .ireturn, 0, 0, 0)] : List zz_i))])
/-- 255: X12_undo undo()I  -/
def zm_255 : zz_MI := (⟨"OneStageTwoPlaysModel", "undo", "()I"⟩, prog_14_method_57_code, 2, (some .int), [(0, 14, ([(0, .aload_n 0, 0, 0, 0), (1, .iconst 0, 0, 0, 0), (2, .putfield 103, 11, 7, 0), (5, .aload_n 0, 0, 0, 0), (6, .getfield 179, 11, 20, 0), (9, .ifCond .ne 5, 0, 0, 0), (12, .iconst (-1), 0, 0, 0), (13, .ireturn, 0, 0, 0)] : List zz_i)),
  (14, 26, ([(14, .aload_n 0, 0, 0, 0), (15, .dup, 0, 0, 0), (16, .getfield 179, 11, 20, 0), (19, .iconst 1, 0, 0, 0), (20, .isub, 0, 0, 0), (21, .putfield 179, 11, 20, 0), (24, .iconst 0, 0, 0, 0), (25, .istore_n 1, 0, 0, 0)] : List zz_i)),
  (26, 58, ([(26, .iload_n 1, 0, 0, 0), (27, .bipush 18, 0, 0, 0), (29, .if_icmp .ge 29, 0, 0, 0), (32, .aload_n 0, 0, 0, 0), (33, .getfield 9, 11, 0, 0), (36, .iload_n 1, 0, 0, 0), (37, .aload_n 0, 0, 0, 0), (38, .getfield 36, 11, 19, 0), (41, .bipush 18, 0, 0, 0), (43, .aload_n 0, 0, 0, 0), (44, .getfield 179, 11, 20, 0), (47, .imul, 0, 0, 0), (48, .iload_n 1, 0, 0, 0), (49, .iadd, 0, 0, 0), (50, .iaload, 0, 0, 0), (51, .iastore, 0, 0, 0), (52, .iinc 1 1, 0, 0, 0), (55, .goto (-29), 0, 0, 0)] : List zz_i)),
  (58, 63, ([(58, .aload_n 0, 0, 0, 0), (59, .getfield 179, 11, 20, 0), (62, .ireturn, 0, 0, 0)] : List zz_i))])
/-- 256: X12_change change(II)I  -/
def zm_256 : zz_MI := (⟨"OneStageTwoPlaysModel", "change", "(II)I"⟩, prog_14_method_58_code, 3, (some .int), [(0, 21, ([(0, .aload_n 0, 0, 0, 0), (1, .iconst 0, 0, 0, 0), (2, .putfield 103, 11, 7, 0), (5, .aload_n 0, 0, 0, 0), (6, .iload_n 1, 0, 0, 0), (7, .invokevirtual 237, 205, 2, 11), (10, .ifCond .eq 11, 0, 0, 0), (13, .aload_n 0, 0, 0, 0), (14, .iload_n 2, 0, 0, 0), (15, .invokevirtual 237, 205, 2, 11), (18, .ifCond .ne 5, 0, 0, 0)] : List zz_i)),
  (21, 23, ([(21, .iconst (-1), 0, 0, 0), (22, .ireturn, 0, 0, 0)] : List zz_i)),
  (23, 71, ([(23, .aload_n 0, 0, 0, 0), (24, .iconst 0, 0, 0, 0), (25, .putfield 107, 11, 6, 0), (28, .aload_n 0, 0, 0, 0), (29, .aload_n 0, 0, 0, 0), (30, .iload_n 1, 0, 0, 0), (31, .iconst 2, 0, 0, 0), (32, .invokevirtual 117, 207, 3, 11), (35, .aload_n 0, 0, 0, 0), (36, .iload_n 2, 0, 0, 0), (37, .iconst 2, 0, 0, 0), (38, .invokevirtual 117, 207, 3, 11), (41, .iand, 0, 0, 0), (42, .i2l, 0, 0, 0), (43, .invokevirtual 286, 204, 2, 11), (46, .aload_n 0, 0, 0, 0), (47, .aload_n 0, 0, 0, 0), (48, .iload_n 1, 0, 0, 0), (49, .iconst 3, 0, 0, 0), (50, .invokevirtual 117, 207, 3, 11), (53, .aload_n 0, 0, 0, 0), (54, .iload_n 2, 0, 0, 0), (55, .iconst 3, 0, 0, 0), (56, .invokevirtual 117, 207, 3, 11), (59, .ixor, 0, 0, 0), (60, .i2l, 0, 0, 0), (61, .invokevirtual 286, 204, 2, 11), (64, .aload_n 0, 0, 0, 0), (65, .iload_n 1, 0, 0, 0), (66, .iload_n 2, 0, 0, 0), (67, .invokevirtual 264, 231, 3, 11), (70, .ireturn, 0, 0, 0)] : List zz_i))])
/-- 257: X12_goWeaves goWeaves(IIII)V  -/
def zm_257 : zz_MI := (⟨"OneStageTwoPlaysModel", "goWeaves", "(IIII)V"⟩, prog_14_method_59_code, 9, none, [(0, 29, ([(0, .aload_n 0, 0, 0, 0), (1, .getfield 57, 11, 27, 0), (4, .iload_n 3, 0, 0, 0), (5, .aload_n 0, 0, 0, 0), (6, .getfield 57, 11, 27, 0), (9, .iload_n 3, 0, 0, 0), (10, .iaload, 0, 0, 0), (11, .iload 4, 0, 0, 0), (13, .invokestatic 222, 310, 2, 0), (16, .iastore, 0, 0, 0), (17, .iload_n 1, 0, 0, 0), (18, .ifCond .ne 11, 0, 0, 0), (21, .aload_n 0, 0, 0, 0), (22, .iload_n 3, 0, 0, 0), (23, .iload 4, 0, 0, 0), (25, .invokevirtual 299, 258, 3, 11), (28, .return_, 0, 0, 0)] : List zz_i)),
  (29, 32, ([(29, .iconst 0, 0, 0, 0), (30, .istore 5, 0, 0, 0)] : List zz_i)),
  (32, 59, ([(32, .iload 5, 0, 0, 0), (34, .iconst 2, 0, 0, 0), (35, .if_icmp .ge 165, 0, 0, 0), (38, .aload_n 0, 0, 0, 0), (39, .iload_n 1, 0, 0, 0), (40, .iload 5, 0, 0, 0), (42, .invokevirtual 250, 233, 3, 11), (45, .invokestatic 303, 235, 1, 0), (48, .istore 6, 0, 0, 0), (50, .iload 6, 0, 0, 0), (52, .iconst (-1), 0, 0, 0), (53, .if_icmp .ne 6, 0, 0, 0), (56, .goto 138, 0, 0, 0)] : List zz_i)),
  (59, 70, ([(59, .iload 4, 0, 0, 0), (61, .iload_n 2, 0, 0, 0), (62, .iconst (-1), 0, 0, 0), (63, .if_icmp .ne 7, 0, 0, 0), (66, .iconst 0, 0, 0, 0), (67, .goto 10, 0, 0, 0)] : List zz_i)),
  (70, 77, ([(70, .aload_n 0, 0, 0, 0), (71, .iload_n 2, 0, 0, 0), (72, .iload 6, 0, 0, 0), (74, .invokevirtual 264, 231, 3, 11)] : List zz_i)),
  (77, 123, ([(77, .iadd, 0, 0, 0), (78, .aload_n 0, 0, 0, 0), (79, .iload 6, 0, 0, 0), (81, .iconst 1, 0, 0, 0), (82, .invokevirtual 117, 207, 3, 11), (85, .iadd, 0, 0, 0), (86, .istore 7, 0, 0, 0), (88, .iload 7, 0, 0, 0), (90, .aload_n 0, 0, 0, 0), (91, .getfield 63, 11, 32, 0), (94, .iload 6, 0, 0, 0), (96, .iaload, 0, 0, 0), (97, .if_icmp .lt 26, 0, 0, 0), (100, .iload 7, 0, 0, 0), (102, .aload_n 0, 0, 0, 0), (103, .getfield 63, 11, 32, 0), (106, .iload 6, 0, 0, 0), (108, .iaload, 0, 0, 0), (109, .if_icmp .ne 31, 0, 0, 0), (112, .iload_n 3, 0, 0, 0), (113, .aload_n 0, 0, 0, 0), (114, .getfield 66, 11, 33, 0), (117, .iload 6, 0, 0, 0), (119, .iaload, 0, 0, 0), (120, .if_icmp .ge 20, 0, 0, 0)] : List zz_i)),
  (123, 140, ([(123, .aload_n 0, 0, 0, 0), (124, .getfield 63, 11, 32, 0), (127, .iload 6, 0, 0, 0), (129, .iload 7, 0, 0, 0), (131, .iastore, 0, 0, 0), (132, .aload_n 0, 0, 0, 0), (133, .getfield 66, 11, 33, 0), (136, .iload 6, 0, 0, 0), (138, .iload_n 3, 0, 0, 0), (139, .iastore, 0, 0, 0)] : List zz_i)),
  (140, 194, ([(140, .aload_n 0, 0, 0, 0), (141, .getfield 54, 11, 26, 0), (144, .iload 5, 0, 0, 0), (146, .iaload, 0, 0, 0), (147, .istore 8, 0, 0, 0), (149, .aload_n 0, 0, 0, 0), (150, .getfield 48, 11, 24, 0), (153, .iload_n 3, 0, 0, 0), (154, .iload 5, 0, 0, 0), (156, .iastore, 0, 0, 0), (157, .aload_n 0, 0, 0, 0), (158, .getfield 54, 11, 26, 0), (161, .iload 5, 0, 0, 0), (163, .iload 7, 0, 0, 0), (165, .iastore, 0, 0, 0), (166, .aload_n 0, 0, 0, 0), (167, .iload_n 1, 0, 0, 0), (168, .iconst 1, 0, 0, 0), (169, .iload 6, 0, 0, 0), (171, .ishl, 0, 0, 0), (172, .iconst (-1), 0, 0, 0), (173, .ixor, 0, 0, 0), (174, .iand, 0, 0, 0), (175, .iload 6, 0, 0, 0), (177, .iload_n 3, 0, 0, 0), (178, .iconst 1, 0, 0, 0), (179, .iadd, 0, 0, 0), (180, .iload 7, 0, 0, 0), (182, .invokevirtual 306, 257, 5, 11), (185, .aload_n 0, 0, 0, 0), (186, .getfield 54, 11, 26, 0), (189, .iload 5, 0, 0, 0), (191, .iload 8, 0, 0, 0), (193, .iastore, 0, 0, 0)] : List zz_i)),
  (194, 200, ([(194, .iinc 5 1, 0, 0, 0), (197, .goto (-165), 0, 0, 0)] : List zz_i)),
  (200, 201, ([(200, .return_, 0, 0, 0)] : List zz_i))])
/-- 258: X12_endWeave endWeave(II)V  -/
def zm_258 : zz_MI := (⟨"OneStageTwoPlaysModel", "endWeave", "(II)V"⟩, prog_14_method_60_code, 4, none, [(0, 52, ([(0, .aload_n 0, 0, 0, 0), (1, .dup, 0, 0, 0), (2, .getfield 310, 11, 28, 0), (5, .iconst 1, 0, 0, 0), (6, .iadd, 0, 0, 0), (7, .putfield 310, 11, 28, 0), (10, .aload_n 0, 0, 0, 0), (11, .aload_n 0, 0, 0, 0), (12, .getfield 313, 11, 30, 0), (15, .iload_n 2, 0, 0, 0), (16, .invokestatic 227, 309, 2, 0), (19, .putfield 313, 11, 30, 0), (22, .iload_n 1, 0, 0, 0), (23, .ifCond .le 29, 0, 0, 0), (26, .aload_n 0, 0, 0, 0), (27, .getfield 60, 11, 31, 0), (30, .aload_n 0, 0, 0, 0), (31, .getfield 48, 11, 24, 0), (34, .iconst 0, 0, 0, 0), (35, .iaload, 0, 0, 0), (36, .aload_n 0, 0, 0, 0), (37, .getfield 60, 11, 31, 0), (40, .aload_n 0, 0, 0, 0), (41, .getfield 48, 11, 24, 0), (44, .iconst 0, 0, 0, 0), (45, .iaload, 0, 0, 0), (46, .iaload, 0, 0, 0), (47, .iload_n 2, 0, 0, 0), (48, .invokestatic 222, 310, 2, 0), (51, .iastore, 0, 0, 0)] : List zz_i)),
  (52, 96, ([(52, .aload_n 0, 0, 0, 0), (53, .getfield 316, 11, 35, 0), (56, .ifCond .ne 63, 0, 0, 0), (59, .aload_n 0, 0, 0, 0), (60, .getfield 54, 11, 26, 0), (63, .iconst 0, 0, 0, 0), (64, .iaload, 0, 0, 0), (65, .aload_n 0, 0, 0, 0), (66, .getfield 69, 11, 34, 0), (69, .iconst 0, 0, 0, 0), (70, .iaload, 0, 0, 0), (71, .if_icmp .gt 48, 0, 0, 0), (74, .aload_n 0, 0, 0, 0), (75, .getfield 54, 11, 26, 0), (78, .iconst 1, 0, 0, 0), (79, .iaload, 0, 0, 0), (80, .aload_n 0, 0, 0, 0), (81, .getfield 69, 11, 34, 0), (84, .iconst 1, 0, 0, 0), (85, .iaload, 0, 0, 0), (86, .if_icmp .gt 33, 0, 0, 0), (89, .aload_n 0, 0, 0, 0), (90, .iconst 1, 0, 0, 0), (91, .putfield 316, 11, 35, 0), (94, .iconst 0, 0, 0, 0), (95, .istore_n 3, 0, 0, 0)] : List zz_i)),
  (96, 119, ([(96, .iload_n 3, 0, 0, 0), (97, .iload_n 1, 0, 0, 0), (98, .if_icmp .ge 21, 0, 0, 0), (101, .aload_n 0, 0, 0, 0), (102, .getfield 72, 11, 36, 0), (105, .iload_n 3, 0, 0, 0), (106, .aload_n 0, 0, 0, 0), (107, .getfield 48, 11, 24, 0), (110, .iload_n 3, 0, 0, 0), (111, .iaload, 0, 0, 0), (112, .iastore, 0, 0, 0), (113, .iinc 3 1, 0, 0, 0), (116, .goto (-20), 0, 0, 0)] : List zz_i)),
  (119, 128, ([(119, .iload_n 2, 0, 0, 0), (120, .aload_n 0, 0, 0, 0), (121, .getfield 319, 11, 29, 0), (124, .if_icmp .lt 4, 0, 0, 0), (127, .return_, 0, 0, 0)] : List zz_i)),
  (128, 135, ([(128, .aload_n 0, 0, 0, 0), (129, .iload_n 2, 0, 0, 0), (130, .putfield 319, 11, 29, 0), (133, .iconst 0, 0, 0, 0), (134, .istore_n 3, 0, 0, 0)] : List zz_i)),
  (135, 158, ([(135, .iload_n 3, 0, 0, 0), (136, .iload_n 1, 0, 0, 0), (137, .if_icmp .ge 21, 0, 0, 0), (140, .aload_n 0, 0, 0, 0), (141, .getfield 51, 11, 25, 0), (144, .iload_n 3, 0, 0, 0), (145, .aload_n 0, 0, 0, 0), (146, .getfield 48, 11, 24, 0), (149, .iload_n 3, 0, 0, 0), (150, .iaload, 0, 0, 0), (151, .iastore, 0, 0, 0), (152, .iinc 3 1, 0, 0, 0), (155, .goto (-20), 0, 0, 0)] : List zz_i)),
  (158, 159, ([(158, .return_, 0, 0, 0)] : List zz_i))])
/-- 259: X12_layWeaves layWeaves()V  -/
def zm_259 : zz_MI := (⟨"OneStageTwoPlaysModel", "layWeaves", "()V"⟩, prog_14_method_61_code, 2, none, [(0, 24, ([(0, .aload_n 0, 0, 0, 0), (1, .iconst 0, 0, 0, 0), (2, .putfield 310, 11, 28, 0), (5, .aload_n 0, 0, 0, 0), (6, .ldc_w 322, 1000000, 0, 0), (9, .putfield 319, 11, 29, 0), (12, .aload_n 0, 0, 0, 0), (13, .iconst 0, 0, 0, 0), (14, .putfield 313, 11, 30, 0), (17, .aload_n 0, 0, 0, 0), (18, .iconst 0, 0, 0, 0), (19, .putfield 316, 11, 35, 0), (22, .iconst 0, 0, 0, 0), (23, .istore_n 1, 0, 0, 0)] : List zz_i)),
  (24, 51, ([(24, .iload_n 1, 0, 0, 0), (25, .iconst 2, 0, 0, 0), (26, .if_icmp .ge 25, 0, 0, 0), (29, .aload_n 0, 0, 0, 0), (30, .getfield 60, 11, 31, 0), (33, .iload_n 1, 0, 0, 0), (34, .ldc_w 322, 1000000, 0, 0), (37, .iastore, 0, 0, 0), (38, .aload_n 0, 0, 0, 0), (39, .getfield 54, 11, 26, 0), (42, .iload_n 1, 0, 0, 0), (43, .iconst 0, 0, 0, 0), (44, .iastore, 0, 0, 0), (45, .iinc 1 1, 0, 0, 0), (48, .goto (-24), 0, 0, 0)] : List zz_i)),
  (51, 53, ([(51, .iconst 0, 0, 0, 0), (52, .istore_n 1, 0, 0, 0)] : List zz_i)),
  (53, 74, ([(53, .iload_n 1, 0, 0, 0), (54, .bipush 12, 0, 0, 0), (56, .if_icmp .gt 18, 0, 0, 0), (59, .aload_n 0, 0, 0, 0), (60, .getfield 57, 11, 27, 0), (63, .iload_n 1, 0, 0, 0), (64, .ldc_w 322, 1000000, 0, 0), (67, .iastore, 0, 0, 0), (68, .iinc 1 1, 0, 0, 0), (71, .goto (-18), 0, 0, 0)] : List zz_i)),
  (74, 76, ([(74, .iconst 0, 0, 0, 0), (75, .istore_n 1, 0, 0, 0)] : List zz_i)),
  (76, 97, ([(76, .iload_n 1, 0, 0, 0), (77, .bipush 12, 0, 0, 0), (79, .if_icmp .ge 18, 0, 0, 0), (82, .aload_n 0, 0, 0, 0), (83, .getfield 63, 11, 32, 0), (86, .iload_n 1, 0, 0, 0), (87, .ldc_w 322, 1000000, 0, 0), (90, .iastore, 0, 0, 0), (91, .iinc 1 1, 0, 0, 0), (94, .goto (-18), 0, 0, 0)] : List zz_i)),
  (97, 116, ([(97, .aload_n 0, 0, 0, 0), (98, .aload_n 0, 0, 0, 0), (99, .iconst 0, 0, 0, 0), (100, .invokevirtual 247, 232, 2, 11), (103, .aload_n 0, 0, 0, 0), (104, .getfield 9, 11, 0, 0), (107, .bipush 13, 0, 0, 0), (109, .iaload, 0, 0, 0), (110, .iconst 0, 0, 0, 0), (111, .iconst 0, 0, 0, 0), (112, .invokevirtual 306, 257, 5, 11), (115, .return_, 0, 0, 0)] : List zz_i))])
/-- 260: X12_weave weave()I  -/
def zm_260 : zz_MI := (⟨"OneStageTwoPlaysModel", "weave", "()I"⟩, prog_14_method_62_code, 2, (some .int), [(0, 16, ([(0, .aload_n 0, 0, 0, 0), (1, .iconst 0, 0, 0, 0), (2, .putfield 103, 11, 7, 0), (5, .aload_n 0, 0, 0, 0), (6, .invokevirtual 323, 259, 1, 11), (9, .aload_n 0, 0, 0, 0), (10, .iconst 0, 0, 0, 0), (11, .putfield 107, 11, 6, 0), (14, .iconst 0, 0, 0, 0), (15, .istore_n 1, 0, 0, 0)] : List zz_i)),
  (16, 45, ([(16, .iload_n 1, 0, 0, 0), (17, .aload_n 0, 0, 0, 0), (18, .iconst 0, 0, 0, 0), (19, .invokevirtual 247, 232, 2, 11), (22, .invokestatic 217, 308, 1, 0), (25, .if_icmp .ge 20, 0, 0, 0), (28, .aload_n 0, 0, 0, 0), (29, .aload_n 0, 0, 0, 0), (30, .getfield 51, 11, 25, 0), (33, .iload_n 1, 0, 0, 0), (34, .iaload, 0, 0, 0), (35, .i2l, 0, 0, 0), (36, .invokevirtual 286, 204, 2, 11), (39, .iinc 1 1, 0, 0, 0), (42, .goto (-26), 0, 0, 0)] : List zz_i)),
  (45, 50, ([(45, .aload_n 0, 0, 0, 0), (46, .getfield 319, 11, 29, 0), (49, .ireturn, 0, 0, 0)] : List zz_i))])
/-- 261: X12_soonest soonest(I)I  -/
def zm_261 : zz_MI := (⟨"OneStageTwoPlaysModel", "soonest", "(I)I"⟩, prog_14_method_63_code, 4, (some .int), [(0, 14, ([(0, .aload_n 0, 0, 0, 0), (1, .iconst 0, 0, 0, 0), (2, .putfield 103, 11, 7, 0), (5, .iload_n 1, 0, 0, 0), (6, .invokestatic 244, 206, 1, 0), (9, .ifCond .ne 5, 0, 0, 0), (12, .iconst (-1), 0, 0, 0), (13, .ireturn, 0, 0, 0)] : List zz_i)),
  (14, 41, ([(14, .aload_n 0, 0, 0, 0), (15, .aload_n 0, 0, 0, 0), (16, .iconst 0, 0, 0, 0), (17, .invokevirtual 247, 232, 2, 11), (20, .iload_n 1, 0, 0, 0), (21, .invokevirtual 250, 233, 3, 11), (24, .istore_n 2, 0, 0, 0), (25, .aload_n 0, 0, 0, 0), (26, .iconst 0, 0, 0, 0), (27, .putfield 107, 11, 6, 0), (30, .iload_n 2, 0, 0, 0), (31, .ifCond .ne 10, 0, 0, 0), (34, .aload_n 0, 0, 0, 0), (35, .lconst 0, 0, 0, 0), (36, .invokevirtual 286, 204, 2, 11), (39, .iconst 0, 0, 0, 0), (40, .ireturn, 0, 0, 0)] : List zz_i)),
  (41, 78, ([(41, .aload_n 0, 0, 0, 0), (42, .invokevirtual 323, 259, 1, 11), (45, .bipush 31, 0, 0, 0), (47, .iload_n 2, 0, 0, 0), (48, .invokestatic 326, 306, 1, 0), (51, .isub, 0, 0, 0), (52, .istore_n 3, 0, 0, 0), (53, .aload_n 0, 0, 0, 0), (54, .aload_n 0, 0, 0, 0), (55, .getfield 66, 11, 33, 0), (58, .iload_n 3, 0, 0, 0), (59, .iaload, 0, 0, 0), (60, .iload_n 2, 0, 0, 0), (61, .invokestatic 217, 308, 1, 0), (64, .isub, 0, 0, 0), (65, .iconst 1, 0, 0, 0), (66, .iadd, 0, 0, 0), (67, .i2l, 0, 0, 0), (68, .invokevirtual 286, 204, 2, 11), (71, .aload_n 0, 0, 0, 0), (72, .getfield 63, 11, 32, 0), (75, .iload_n 3, 0, 0, 0), (76, .iaload, 0, 0, 0), (77, .ireturn, 0, 0, 0)] : List zz_i))])
/-- 262: X12_both both(II)I  -/
def zm_262 : zz_MI := (⟨"OneStageTwoPlaysModel", "both", "(II)I"⟩, prog_14_method_64_code, 4, (some .int), [(0, 27, ([(0, .aload_n 0, 0, 0, 0), (1, .iconst 0, 0, 0, 0), (2, .putfield 103, 11, 7, 0), (5, .iload_n 1, 0, 0, 0), (6, .iconst 0, 0, 0, 0), (7, .sipush 199, 0, 0, 0), (10, .invokestatic 113, 201, 3, 0), (13, .ifCond .eq 14, 0, 0, 0), (16, .iload_n 2, 0, 0, 0), (17, .iconst 0, 0, 0, 0), (18, .sipush 199, 0, 0, 0), (21, .invokestatic 113, 201, 3, 0), (24, .ifCond .ne 5, 0, 0, 0)] : List zz_i)),
  (27, 29, ([(27, .iconst (-1), 0, 0, 0), (28, .ireturn, 0, 0, 0)] : List zz_i)),
  (29, 54, ([(29, .aload_n 0, 0, 0, 0), (30, .getfield 69, 11, 34, 0), (33, .iconst 0, 0, 0, 0), (34, .iload_n 1, 0, 0, 0), (35, .iastore, 0, 0, 0), (36, .aload_n 0, 0, 0, 0), (37, .getfield 69, 11, 34, 0), (40, .iconst 1, 0, 0, 0), (41, .iload_n 2, 0, 0, 0), (42, .iastore, 0, 0, 0), (43, .aload_n 0, 0, 0, 0), (44, .invokevirtual 323, 259, 1, 11), (47, .aload_n 0, 0, 0, 0), (48, .iconst 0, 0, 0, 0), (49, .putfield 107, 11, 6, 0), (52, .iconst 0, 0, 0, 0), (53, .istore_n 3, 0, 0, 0)] : List zz_i)),
  (54, 90, ([(54, .iload_n 3, 0, 0, 0), (55, .aload_n 0, 0, 0, 0), (56, .iconst 0, 0, 0, 0), (57, .invokevirtual 247, 232, 2, 11), (60, .invokestatic 217, 308, 1, 0), (63, .if_icmp .ge 27, 0, 0, 0), (66, .aload_n 0, 0, 0, 0), (67, .getfield 316, 11, 35, 0), (70, .ifCond .eq 20, 0, 0, 0), (73, .aload_n 0, 0, 0, 0), (74, .aload_n 0, 0, 0, 0), (75, .getfield 72, 11, 36, 0), (78, .iload_n 3, 0, 0, 0), (79, .iaload, 0, 0, 0), (80, .i2l, 0, 0, 0), (81, .invokevirtual 286, 204, 2, 11), (84, .iinc 3 1, 0, 0, 0), (87, .goto (-33), 0, 0, 0)] : List zz_i)),
  (90, 101, ([(90, .aload_n 0, 0, 0, 0), (91, .getfield 316, 11, 35, 0), (94, .ifCond .eq 7, 0, 0, 0), (97, .iconst 1, 0, 0, 0), (98, .goto 4, 0, 0, 0)] : List zz_i)),
  (101, 102, ([(101, .iconst 0, 0, 0, 0)] : List zz_i)),
  (102, 103, ([(102, .ireturn, 0, 0, 0)] : List zz_i))])
/-- 263: X12_within within(I)I  -/
def zm_263 : zz_MI := (⟨"OneStageTwoPlaysModel", "within", "(I)I"⟩, prog_14_method_65_code, 3, (some .int), [(0, 18, ([(0, .aload_n 0, 0, 0, 0), (1, .iconst 0, 0, 0, 0), (2, .putfield 103, 11, 7, 0), (5, .iload_n 1, 0, 0, 0), (6, .iconst 0, 0, 0, 0), (7, .sipush 199, 0, 0, 0), (10, .invokestatic 113, 201, 3, 0), (13, .ifCond .ne 5, 0, 0, 0), (16, .iconst (-1), 0, 0, 0), (17, .ireturn, 0, 0, 0)] : List zz_i)),
  (18, 31, ([(18, .aload_n 0, 0, 0, 0), (19, .invokevirtual 323, 259, 1, 11), (22, .aload_n 0, 0, 0, 0), (23, .iconst 0, 0, 0, 0), (24, .invokevirtual 247, 232, 2, 11), (27, .invokestatic 217, 308, 1, 0), (30, .istore_n 2, 0, 0, 0)] : List zz_i)),
  (31, 47, ([(31, .aload_n 0, 0, 0, 0), (32, .getfield 57, 11, 27, 0), (35, .iload_n 2, 0, 0, 0), (36, .iaload, 0, 0, 0), (37, .iload_n 1, 0, 0, 0), (38, .if_icmp .le 9, 0, 0, 0), (41, .iinc 2 (-1), 0, 0, 0), (44, .goto (-13), 0, 0, 0)] : List zz_i)),
  (47, 65, ([(47, .aload_n 0, 0, 0, 0), (48, .iconst 0, 0, 0, 0), (49, .putfield 107, 11, 6, 0), (52, .aload_n 0, 0, 0, 0), (53, .aload_n 0, 0, 0, 0), (54, .getfield 57, 11, 27, 0), (57, .iload_n 2, 0, 0, 0), (58, .iaload, 0, 0, 0), (59, .i2l, 0, 0, 0), (60, .invokevirtual 286, 204, 2, 11), (63, .iload_n 2, 0, 0, 0), (64, .ireturn, 0, 0, 0)] : List zz_i))])
/-- 264: X12_weaves weaves()I  -/
def zm_264 : zz_MI := (⟨"OneStageTwoPlaysModel", "weaves", "()I"⟩, prog_14_method_66_code, 1, (some .int), [(0, 28, ([(0, .aload_n 0, 0, 0, 0), (1, .iconst 0, 0, 0, 0), (2, .putfield 103, 11, 7, 0), (5, .aload_n 0, 0, 0, 0), (6, .invokevirtual 323, 259, 1, 11), (9, .aload_n 0, 0, 0, 0), (10, .iconst 0, 0, 0, 0), (11, .putfield 107, 11, 6, 0), (14, .aload_n 0, 0, 0, 0), (15, .aload_n 0, 0, 0, 0), (16, .getfield 313, 11, 30, 0), (19, .i2l, 0, 0, 0), (20, .invokevirtual 286, 204, 2, 11), (23, .aload_n 0, 0, 0, 0), (24, .getfield 310, 11, 28, 0), (27, .ireturn, 0, 0, 0)] : List zz_i))])
/-- 265: X12_turn turn(I)I  -/
def zm_265 : zz_MI := (⟨"OneStageTwoPlaysModel", "turn", "(I)I"⟩, prog_14_method_67_code, 2, (some .int), [(0, 14, ([(0, .aload_n 0, 0, 0, 0), (1, .iconst 0, 0, 0, 0), (2, .putfield 103, 11, 7, 0), (5, .iload_n 1, 0, 0, 0), (6, .invokestatic 244, 206, 1, 0), (9, .ifCond .ne 5, 0, 0, 0), (12, .iconst (-1), 0, 0, 0), (13, .ireturn, 0, 0, 0)] : List zz_i)),
  (14, 30, ([(14, .aload_n 0, 0, 0, 0), (15, .aload_n 0, 0, 0, 0), (16, .getfield 9, 11, 0, 0), (19, .iload_n 1, 0, 0, 0), (20, .invokevirtual 253, 236, 3, 11), (23, .iconst (-1), 0, 0, 0), (24, .if_icmp .ne 6, 0, 0, 0), (27, .bipush (-2), 0, 0, 0), (29, .ireturn, 0, 0, 0)] : List zz_i)),
  (30, 62, ([(30, .aload_n 0, 0, 0, 0), (31, .invokevirtual 323, 259, 1, 11), (34, .aload_n 0, 0, 0, 0), (35, .iconst 0, 0, 0, 0), (36, .putfield 107, 11, 6, 0), (39, .aload_n 0, 0, 0, 0), (40, .aload_n 0, 0, 0, 0), (41, .getfield 60, 11, 31, 0), (44, .iload_n 1, 0, 0, 0), (45, .iaload, 0, 0, 0), (46, .i2l, 0, 0, 0), (47, .invokevirtual 286, 204, 2, 11), (50, .aload_n 0, 0, 0, 0), (51, .getfield 60, 11, 31, 0), (54, .iload_n 1, 0, 0, 0), (55, .iaload, 0, 0, 0), (56, .aload_n 0, 0, 0, 0), (57, .getfield 319, 11, 29, 0), (60, .isub, 0, 0, 0), (61, .ireturn, 0, 0, 0)] : List zz_i))])
/-- 266: X12_over over(I)I  -/
def zm_266 : zz_MI := (⟨"OneStageTwoPlaysModel", "over", "(I)I"⟩, prog_14_method_68_code, 2, (some .int), [(0, 15, ([(0, .aload_n 0, 0, 0, 0), (1, .iconst 0, 0, 0, 0), (2, .putfield 103, 11, 7, 0), (5, .aload_n 0, 0, 0, 0), (6, .iload_n 1, 0, 0, 0), (7, .invokevirtual 237, 205, 2, 11), (10, .ifCond .ne 5, 0, 0, 0), (13, .iconst (-1), 0, 0, 0), (14, .ireturn, 0, 0, 0)] : List zz_i)),
  (15, 27, ([(15, .aload_n 0, 0, 0, 0), (16, .getfield 9, 11, 0, 0), (19, .iload_n 1, 0, 0, 0), (20, .iaload, 0, 0, 0), (21, .ifCond .eq 6, 0, 0, 0), (24, .bipush (-2), 0, 0, 0), (26, .ireturn, 0, 0, 0)] : List zz_i)),
  (27, 54, ([(27, .aload_n 0, 0, 0, 0), (28, .invokevirtual 323, 259, 1, 11), (31, .aload_n 0, 0, 0, 0), (32, .iconst 0, 0, 0, 0), (33, .putfield 107, 11, 6, 0), (36, .aload_n 0, 0, 0, 0), (37, .aload_n 0, 0, 0, 0), (38, .getfield 66, 11, 33, 0), (41, .iload_n 1, 0, 0, 0), (42, .iaload, 0, 0, 0), (43, .i2l, 0, 0, 0), (44, .invokevirtual 286, 204, 2, 11), (47, .aload_n 0, 0, 0, 0), (48, .getfield 63, 11, 32, 0), (51, .iload_n 1, 0, 0, 0), (52, .iaload, 0, 0, 0), (53, .ireturn, 0, 0, 0)] : List zz_i))])
/-- 267: X12_spot spot(III)I  -/
def zm_267 : zz_MI := (⟨"OneStageTwoPlaysModel", "spot", "(III)I"⟩, prog_14_method_69_code, 4, (some .int), [(0, 11, ([(0, .bipush 13, 0, 0, 0), (2, .iload_n 1, 0, 0, 0), (3, .imul, 0, 0, 0), (4, .iload_n 2, 0, 0, 0), (5, .iadd, 0, 0, 0), (6, .iconst 3, 0, 0, 0), (7, .imul, 0, 0, 0), (8, .iload_n 3, 0, 0, 0), (9, .iadd, 0, 0, 0), (10, .ireturn, 0, 0, 0)] : List zz_i))])
/-- 268: X12_stepTo stepTo(II)I  -/
def zm_268 : zz_MI := (⟨"OneStageTwoPlaysModel", "stepTo", "(II)I"⟩, prog_14_method_70_code, 3, (some .int), [(0, 9, ([(0, .iload_n 1, 0, 0, 0), (1, .iconst (-1), 0, 0, 0), (2, .if_icmp .ne 7, 0, 0, 0), (5, .iconst 0, 0, 0, 0), (6, .goto 9, 0, 0, 0)] : List zz_i)),
  (9, 15, ([(9, .aload_n 0, 0, 0, 0), (10, .iload_n 1, 0, 0, 0), (11, .iload_n 2, 0, 0, 0), (12, .invokevirtual 264, 231, 3, 11)] : List zz_i)),
  (15, 23, ([(15, .aload_n 0, 0, 0, 0), (16, .iload_n 2, 0, 0, 0), (17, .iconst 1, 0, 0, 0), (18, .invokevirtual 117, 207, 3, 11), (21, .iadd, 0, 0, 0), (22, .ireturn, 0, 0, 0)] : List zz_i))])
/-- 269: X12_shortestOf shortestOf(I)I  -/
def zm_269 : zz_MI := (⟨"OneStageTwoPlaysModel", "shortestOf", "(I)I"⟩, prog_14_method_71_code, 9, (some .int), [(0, 7, ([(0, .iconst 0, 0, 0, 0), (1, .istore_n 2, 0, 0, 0), (2, .iconst 0, 0, 0, 0), (3, .istore_n 3, 0, 0, 0), (4, .iconst 0, 0, 0, 0), (5, .istore 4, 0, 0, 0)] : List zz_i)),
  (7, 28, ([(7, .iload 4, 0, 0, 0), (9, .aload_n 0, 0, 0, 0), (10, .getfield 110, 11, 1, 0), (13, .if_icmp .ge 55, 0, 0, 0), (16, .iload_n 1, 0, 0, 0), (17, .iload 4, 0, 0, 0), (19, .invokestatic 230, 202, 2, 0), (22, .ifCond .ne 6, 0, 0, 0), (25, .goto 37, 0, 0, 0)] : List zz_i)),
  (28, 51, ([(28, .aload_n 0, 0, 0, 0), (29, .iload 4, 0, 0, 0), (31, .invokevirtual 214, 208, 2, 11), (34, .ifCond .ne 17, 0, 0, 0), (37, .aload_n 0, 0, 0, 0), (38, .getfield 78, 11, 38, 0), (41, .iload_n 2, 0, 0, 0), (42, .iinc 2 1, 0, 0, 0), (45, .iload 4, 0, 0, 0), (47, .iastore, 0, 0, 0), (48, .goto 14, 0, 0, 0)] : List zz_i)),
  (51, 62, ([(51, .aload_n 0, 0, 0, 0), (52, .getfield 81, 11, 39, 0), (55, .iload_n 3, 0, 0, 0), (56, .iinc 3 1, 0, 0, 0), (59, .iload 4, 0, 0, 0), (61, .iastore, 0, 0, 0)] : List zz_i)),
  (62, 68, ([(62, .iinc 4 1, 0, 0, 0), (65, .goto (-58), 0, 0, 0)] : List zz_i)),
  (68, 71, ([(68, .iload_n 2, 0, 0, 0), (69, .istore 4, 0, 0, 0)] : List zz_i)),
  (71, 79, ([(71, .iload 4, 0, 0, 0), (73, .ifCond .lt 230, 0, 0, 0), (76, .iload_n 3, 0, 0, 0), (77, .istore 5, 0, 0, 0)] : List zz_i)),
  (79, 87, ([(79, .iload 5, 0, 0, 0), (81, .ifCond .lt 216, 0, 0, 0), (84, .iconst 0, 0, 0, 0), (85, .istore 6, 0, 0, 0)] : List zz_i)),
  (87, 103, ([(87, .iload 6, 0, 0, 0), (89, .iconst 3, 0, 0, 0), (90, .if_icmp .ge 201, 0, 0, 0), (93, .iload 6, 0, 0, 0), (95, .ifCond .ne 8, 0, 0, 0), (98, .iload 4, 0, 0, 0), (100, .ifCond .eq 185, 0, 0, 0)] : List zz_i)),
  (103, 117, ([(103, .iload 6, 0, 0, 0), (105, .iconst 1, 0, 0, 0), (106, .if_icmp .ne 11, 0, 0, 0), (109, .iload 5, 0, 0, 0), (111, .ifCond .ne 6, 0, 0, 0), (114, .goto 171, 0, 0, 0)] : List zz_i)),
  (117, 134, ([(117, .iload 6, 0, 0, 0), (119, .ifCond .ne 15, 0, 0, 0), (122, .aload_n 0, 0, 0, 0), (123, .getfield 78, 11, 38, 0), (126, .iload 4, 0, 0, 0), (128, .iconst 1, 0, 0, 0), (129, .isub, 0, 0, 0), (130, .iaload, 0, 0, 0), (131, .goto 28, 0, 0, 0)] : List zz_i)),
  (134, 152, ([(134, .iload 6, 0, 0, 0), (136, .iconst 1, 0, 0, 0), (137, .if_icmp .ne 15, 0, 0, 0), (140, .aload_n 0, 0, 0, 0), (141, .getfield 81, 11, 39, 0), (144, .iload 5, 0, 0, 0), (146, .iconst 1, 0, 0, 0), (147, .isub, 0, 0, 0), (148, .iaload, 0, 0, 0), (149, .goto 10, 0, 0, 0)] : List zz_i)),
  (152, 159, ([(152, .aload_n 0, 0, 0, 0), (153, .getfield 9, 11, 0, 0), (156, .bipush 13, 0, 0, 0), (158, .iaload, 0, 0, 0)] : List zz_i)),
  (159, 177, ([(159, .istore 7, 0, 0, 0), (161, .iload 4, 0, 0, 0), (163, .iload_n 2, 0, 0, 0), (164, .if_icmp .ne 13, 0, 0, 0), (167, .iload 5, 0, 0, 0), (169, .iload_n 3, 0, 0, 0), (170, .if_icmp .ne 7, 0, 0, 0), (173, .iconst 0, 0, 0, 0), (174, .goto 6, 0, 0, 0)] : List zz_i)),
  (177, 180, ([(177, .ldc_w 322, 1000000, 0, 0)] : List zz_i)),
  (180, 225, ([(180, .istore 8, 0, 0, 0), (182, .iload 4, 0, 0, 0), (184, .iload_n 2, 0, 0, 0), (185, .if_icmp .ge 40, 0, 0, 0), (188, .iload 8, 0, 0, 0), (190, .aload_n 0, 0, 0, 0), (191, .iload 7, 0, 0, 0), (193, .aload_n 0, 0, 0, 0), (194, .getfield 78, 11, 38, 0), (197, .iload 4, 0, 0, 0), (199, .iaload, 0, 0, 0), (200, .invokevirtual 329, 268, 3, 11), (203, .aload_n 0, 0, 0, 0), (204, .getfield 75, 11, 37, 0), (207, .aload_n 0, 0, 0, 0), (208, .iload 4, 0, 0, 0), (210, .iconst 1, 0, 0, 0), (211, .iadd, 0, 0, 0), (212, .iload 5, 0, 0, 0), (214, .iconst 0, 0, 0, 0), (215, .invokevirtual 332, 267, 4, 11), (218, .iaload, 0, 0, 0), (219, .iadd, 0, 0, 0), (220, .invokestatic 222, 310, 2, 0), (223, .istore 8, 0, 0, 0)] : List zz_i)),
  (225, 268, ([(225, .iload 5, 0, 0, 0), (227, .iload_n 3, 0, 0, 0), (228, .if_icmp .ge 40, 0, 0, 0), (231, .iload 8, 0, 0, 0), (233, .aload_n 0, 0, 0, 0), (234, .iload 7, 0, 0, 0), (236, .aload_n 0, 0, 0, 0), (237, .getfield 81, 11, 39, 0), (240, .iload 5, 0, 0, 0), (242, .iaload, 0, 0, 0), (243, .invokevirtual 329, 268, 3, 11), (246, .aload_n 0, 0, 0, 0), (247, .getfield 75, 11, 37, 0), (250, .aload_n 0, 0, 0, 0), (251, .iload 4, 0, 0, 0), (253, .iload 5, 0, 0, 0), (255, .iconst 1, 0, 0, 0), (256, .iadd, 0, 0, 0), (257, .iconst 1, 0, 0, 0), (258, .invokevirtual 332, 267, 4, 11), (261, .iaload, 0, 0, 0), (262, .iadd, 0, 0, 0), (263, .invokestatic 222, 310, 2, 0), (266, .istore 8, 0, 0, 0)] : List zz_i)),
  (268, 285, ([(268, .aload_n 0, 0, 0, 0), (269, .getfield 75, 11, 37, 0), (272, .aload_n 0, 0, 0, 0), (273, .iload 4, 0, 0, 0), (275, .iload 5, 0, 0, 0), (277, .iload 6, 0, 0, 0), (279, .invokevirtual 332, 267, 4, 11), (282, .iload 8, 0, 0, 0), (284, .iastore, 0, 0, 0)] : List zz_i)),
  (285, 291, ([(285, .iinc 6 1, 0, 0, 0), (288, .goto (-201), 0, 0, 0)] : List zz_i)),
  (291, 297, ([(291, .iinc 5 (-1), 0, 0, 0), (294, .goto (-215), 0, 0, 0)] : List zz_i)),
  (297, 303, ([(297, .iinc 4 (-1), 0, 0, 0), (300, .goto (-229), 0, 0, 0)] : List zz_i)),
  (303, 316, ([(303, .aload_n 0, 0, 0, 0), (304, .getfield 75, 11, 37, 0), (307, .aload_n 0, 0, 0, 0), (308, .iconst 0, 0, 0, 0), (309, .iconst 0, 0, 0, 0), (310, .iconst 2, 0, 0, 0), (311, .invokevirtual 332, 267, 4, 11), (314, .iaload, 0, 0, 0), (315, .ireturn, 0, 0, 0)] : List zz_i))])
/-- 270: X12_cheerOf cheerOf(I)I  -/
def zm_270 : zz_MI := (⟨"OneStageTwoPlaysModel", "cheerOf", "(I)I"⟩, prog_14_method_72_code, 4, (some .int), [(0, 4, ([(0, .iconst 0, 0, 0, 0), (1, .istore_n 2, 0, 0, 0), (2, .iconst 0, 0, 0, 0), (3, .istore_n 3, 0, 0, 0)] : List zz_i)),
  (4, 31, ([(4, .iload_n 3, 0, 0, 0), (5, .aload_n 0, 0, 0, 0), (6, .getfield 110, 11, 1, 0), (9, .if_icmp .ge 31, 0, 0, 0), (12, .iload_n 2, 0, 0, 0), (13, .iload_n 1, 0, 0, 0), (14, .iload_n 3, 0, 0, 0), (15, .invokestatic 230, 202, 2, 0), (18, .ifCond .eq 13, 0, 0, 0), (21, .aload_n 0, 0, 0, 0), (22, .iload_n 3, 0, 0, 0), (23, .bipush 6, 0, 0, 0), (25, .invokevirtual 117, 207, 3, 11), (28, .goto 4, 0, 0, 0)] : List zz_i)),
  (31, 32, ([(31, .iconst 0, 0, 0, 0)] : List zz_i)),
  (32, 40, ([(32, .iadd, 0, 0, 0), (33, .istore_n 2, 0, 0, 0), (34, .iinc 3 1, 0, 0, 0), (37, .goto (-33), 0, 0, 0)] : List zz_i)),
  (40, 42, ([(40, .iload_n 2, 0, 0, 0), (41, .ireturn, 0, 0, 0)] : List zz_i))])
/-- 271: X12_cuts cuts(I)I  -/
def zm_271 : zz_MI := (⟨"OneStageTwoPlaysModel", "cuts", "(I)I"⟩, prog_14_method_73_code, 6, (some .int), [(0, 18, ([(0, .aload_n 0, 0, 0, 0), (1, .iconst 0, 0, 0, 0), (2, .putfield 103, 11, 7, 0), (5, .iload_n 1, 0, 0, 0), (6, .iconst 0, 0, 0, 0), (7, .sipush 199, 0, 0, 0), (10, .invokestatic 113, 201, 3, 0), (13, .ifCond .ne 5, 0, 0, 0), (16, .iconst (-1), 0, 0, 0), (17, .ireturn, 0, 0, 0)] : List zz_i)),
  (18, 29, ([(18, .aload_n 0, 0, 0, 0), (19, .iconst 0, 0, 0, 0), (20, .invokevirtual 247, 232, 2, 11), (23, .istore_n 2, 0, 0, 0), (24, .iload_n 2, 0, 0, 0), (25, .istore_n 3, 0, 0, 0), (26, .iconst 0, 0, 0, 0), (27, .istore 4, 0, 0, 0)] : List zz_i)),
  (29, 47, ([(29, .iload 4, 0, 0, 0), (31, .iload_n 2, 0, 0, 0), (32, .if_icmp .ge 103, 0, 0, 0), (35, .iload 4, 0, 0, 0), (37, .iload_n 2, 0, 0, 0), (38, .iconst (-1), 0, 0, 0), (39, .ixor, 0, 0, 0), (40, .iand, 0, 0, 0), (41, .ifCond .eq 6, 0, 0, 0), (44, .goto 85, 0, 0, 0)] : List zz_i)),
  (47, 86, ([(47, .aload_n 0, 0, 0, 0), (48, .iload 4, 0, 0, 0), (50, .invokevirtual 336, 270, 2, 11), (53, .aload_n 0, 0, 0, 0), (54, .iload_n 3, 0, 0, 0), (55, .invokevirtual 336, 270, 2, 11), (58, .isub, 0, 0, 0), (59, .istore 5, 0, 0, 0), (61, .iload 5, 0, 0, 0), (63, .ifCond .gt 66, 0, 0, 0), (66, .iload 5, 0, 0, 0), (68, .ifCond .ne 18, 0, 0, 0), (71, .iload 4, 0, 0, 0), (73, .invokestatic 217, 308, 1, 0), (76, .iload_n 3, 0, 0, 0), (77, .invokestatic 217, 308, 1, 0), (80, .if_icmp .le 6, 0, 0, 0), (83, .goto 46, 0, 0, 0)] : List zz_i)),
  (86, 109, ([(86, .iload 5, 0, 0, 0), (88, .ifCond .ne 21, 0, 0, 0), (91, .iload 4, 0, 0, 0), (93, .invokestatic 217, 308, 1, 0), (96, .iload_n 3, 0, 0, 0), (97, .invokestatic 217, 308, 1, 0), (100, .if_icmp .ne 9, 0, 0, 0), (103, .iload 4, 0, 0, 0), (105, .iload_n 3, 0, 0, 0), (106, .if_icmp .gt 23, 0, 0, 0)] : List zz_i)),
  (109, 126, ([(109, .aload_n 0, 0, 0, 0), (110, .iload_n 2, 0, 0, 0), (111, .iload 4, 0, 0, 0), (113, .iconst (-1), 0, 0, 0), (114, .ixor, 0, 0, 0), (115, .iand, 0, 0, 0), (116, .invokevirtual 339, 269, 2, 11), (119, .iload_n 1, 0, 0, 0), (120, .if_icmp .le 6, 0, 0, 0), (123, .goto 6, 0, 0, 0)] : List zz_i)),
  (126, 129, ([(126, .iload 4, 0, 0, 0), (128, .istore_n 3, 0, 0, 0)] : List zz_i)),
  (129, 135, ([(129, .iinc 4 1, 0, 0, 0), (132, .goto (-103), 0, 0, 0)] : List zz_i)),
  (135, 166, ([(135, .aload_n 0, 0, 0, 0), (136, .iconst 0, 0, 0, 0), (137, .putfield 107, 11, 6, 0), (140, .aload_n 0, 0, 0, 0), (141, .iload_n 3, 0, 0, 0), (142, .i2l, 0, 0, 0), (143, .invokevirtual 286, 204, 2, 11), (146, .aload_n 0, 0, 0, 0), (147, .aload_n 0, 0, 0, 0), (148, .iload_n 2, 0, 0, 0), (149, .iload_n 3, 0, 0, 0), (150, .iconst (-1), 0, 0, 0), (151, .ixor, 0, 0, 0), (152, .iand, 0, 0, 0), (153, .invokevirtual 339, 269, 2, 11), (156, .i2l, 0, 0, 0), (157, .invokevirtual 286, 204, 2, 11), (160, .aload_n 0, 0, 0, 0), (161, .iload_n 3, 0, 0, 0), (162, .invokevirtual 336, 270, 2, 11), (165, .ireturn, 0, 0, 0)] : List zz_i))])
/-- 272: X12_clashesOf clashesOf(III)I  -/
def zm_272 : zz_MI := (⟨"OneStageTwoPlaysModel", "clashesOf", "(III)I"⟩, prog_14_method_74_code, 9, (some .int), [(0, 12, ([(0, .iload_n 2, 0, 0, 0), (1, .istore 4, 0, 0, 0), (3, .iload_n 3, 0, 0, 0), (4, .istore 5, 0, 0, 0), (6, .iconst 0, 0, 0, 0), (7, .istore 6, 0, 0, 0), (9, .iconst 0, 0, 0, 0), (10, .istore 7, 0, 0, 0)] : List zz_i)),
  (12, 33, ([(12, .iload 7, 0, 0, 0), (14, .aload_n 0, 0, 0, 0), (15, .getfield 110, 11, 1, 0), (18, .if_icmp .ge 95, 0, 0, 0), (21, .iload_n 1, 0, 0, 0), (22, .iload 7, 0, 0, 0), (24, .invokestatic 230, 202, 2, 0), (27, .ifCond .ne 6, 0, 0, 0), (30, .goto 77, 0, 0, 0)] : List zz_i)),
  (33, 47, ([(33, .aload_n 0, 0, 0, 0), (34, .iload 7, 0, 0, 0), (36, .invokevirtual 214, 208, 2, 11), (39, .ifCond .ne 8, 0, 0, 0), (42, .iload 4, 0, 0, 0), (44, .goto 5, 0, 0, 0)] : List zz_i)),
  (47, 49, ([(47, .iload 5, 0, 0, 0)] : List zz_i)),
  (49, 71, ([(49, .istore 8, 0, 0, 0), (51, .iload 6, 0, 0, 0), (53, .aload_n 0, 0, 0, 0), (54, .iload 8, 0, 0, 0), (56, .iload 7, 0, 0, 0), (58, .invokevirtual 267, 244, 3, 11), (61, .ifCond .eq 10, 0, 0, 0), (64, .iconst 1, 0, 0, 0), (65, .iload 7, 0, 0, 0), (67, .ishl, 0, 0, 0), (68, .goto 4, 0, 0, 0)] : List zz_i)),
  (71, 72, ([(71, .iconst 0, 0, 0, 0)] : List zz_i)),
  (72, 97, ([(72, .ior, 0, 0, 0), (73, .istore 6, 0, 0, 0), (75, .aload_n 0, 0, 0, 0), (76, .iload 7, 0, 0, 0), (78, .invokevirtual 214, 208, 2, 11), (81, .ifCond .ne 16, 0, 0, 0), (84, .aload_n 0, 0, 0, 0), (85, .iload 8, 0, 0, 0), (87, .iload 7, 0, 0, 0), (89, .invokevirtual 276, 243, 3, 11), (92, .istore 4, 0, 0, 0), (94, .goto 13, 0, 0, 0)] : List zz_i)),
  (97, 107, ([(97, .aload_n 0, 0, 0, 0), (98, .iload 8, 0, 0, 0), (100, .iload 7, 0, 0, 0), (102, .invokevirtual 276, 243, 3, 11), (105, .istore 5, 0, 0, 0)] : List zz_i)),
  (107, 113, ([(107, .iinc 7 1, 0, 0, 0), (110, .goto (-98), 0, 0, 0)] : List zz_i)),
  (113, 116, ([(113, .iload 6, 0, 0, 0), (115, .ireturn, 0, 0, 0)] : List zz_i))])
/-- 273: X12_clashNow clashNow(I)I  -/
def zm_273 : zz_MI := (⟨"OneStageTwoPlaysModel", "clashNow", "(I)I"⟩, prog_14_method_75_code, 2, (some .int), [(0, 20, ([(0, .aload_n 0, 0, 0, 0), (1, .iload_n 1, 0, 0, 0), (2, .aload_n 0, 0, 0, 0), (3, .getfield 9, 11, 0, 0), (6, .bipush 14, 0, 0, 0), (8, .iaload, 0, 0, 0), (9, .aload_n 0, 0, 0, 0), (10, .getfield 9, 11, 0, 0), (13, .bipush 15, 0, 0, 0), (15, .iaload, 0, 0, 0), (16, .invokevirtual 342, 272, 4, 11), (19, .ireturn, 0, 0, 0)] : List zz_i))])
/-- 274: X12_clash clash()I  -/
def zm_274 : zz_MI := (⟨"OneStageTwoPlaysModel", "clash", "()I"⟩, prog_14_method_76_code, 4, (some .int), [(0, 19, ([(0, .aload_n 0, 0, 0, 0), (1, .iconst 0, 0, 0, 0), (2, .putfield 103, 11, 7, 0), (5, .aload_n 0, 0, 0, 0), (6, .aload_n 0, 0, 0, 0), (7, .iconst 0, 0, 0, 0), (8, .invokevirtual 247, 232, 2, 11), (11, .invokevirtual 345, 273, 2, 11), (14, .istore_n 1, 0, 0, 0), (15, .iconst 0, 0, 0, 0), (16, .istore_n 2, 0, 0, 0), (17, .iconst 0, 0, 0, 0), (18, .istore_n 3, 0, 0, 0)] : List zz_i)),
  (19, 56, ([(19, .iload_n 3, 0, 0, 0), (20, .aload_n 0, 0, 0, 0), (21, .getfield 110, 11, 1, 0), (24, .if_icmp .ge 41, 0, 0, 0), (27, .iload_n 2, 0, 0, 0), (28, .iload_n 1, 0, 0, 0), (29, .iload_n 3, 0, 0, 0), (30, .invokestatic 230, 202, 2, 0), (33, .ifCond .eq 23, 0, 0, 0), (36, .aload_n 0, 0, 0, 0), (37, .iload_n 3, 0, 0, 0), (38, .bipush 6, 0, 0, 0), (40, .invokevirtual 117, 207, 3, 11), (43, .aload_n 0, 0, 0, 0), (44, .iload_n 3, 0, 0, 0), (45, .bipush 6, 0, 0, 0), (47, .invokevirtual 117, 207, 3, 11), (50, .iconst 2, 0, 0, 0), (51, .idiv, 0, 0, 0), (52, .isub, 0, 0, 0), (53, .goto 4, 0, 0, 0)] : List zz_i)),
  (56, 57, ([(56, .iconst 0, 0, 0, 0)] : List zz_i)),
  (57, 65, ([(57, .iadd, 0, 0, 0), (58, .istore_n 2, 0, 0, 0), (59, .iinc 3 1, 0, 0, 0), (62, .goto (-43), 0, 0, 0)] : List zz_i)),
  (65, 87, ([(65, .aload_n 0, 0, 0, 0), (66, .iconst 0, 0, 0, 0), (67, .putfield 107, 11, 6, 0), (70, .aload_n 0, 0, 0, 0), (71, .iload_n 1, 0, 0, 0), (72, .invokestatic 217, 308, 1, 0), (75, .i2l, 0, 0, 0), (76, .invokevirtual 286, 204, 2, 11), (79, .aload_n 0, 0, 0, 0), (80, .iload_n 2, 0, 0, 0), (81, .i2l, 0, 0, 0), (82, .invokevirtual 286, 204, 2, 11), (85, .iload_n 1, 0, 0, 0), (86, .ireturn, 0, 0, 0)] : List zz_i))])
/-- 275: X12_mend mend()I  -/
def zm_275 : zz_MI := (⟨"OneStageTwoPlaysModel", "mend", "()I"⟩, prog_14_method_77_code, 5, (some .int), [(0, 22, ([(0, .aload_n 0, 0, 0, 0), (1, .iconst 0, 0, 0, 0), (2, .putfield 103, 11, 7, 0), (5, .aload_n 0, 0, 0, 0), (6, .aload_n 0, 0, 0, 0), (7, .iconst 0, 0, 0, 0), (8, .invokevirtual 247, 232, 2, 11), (11, .invokevirtual 345, 273, 2, 11), (14, .istore_n 1, 0, 0, 0), (15, .iconst 0, 0, 0, 0), (16, .istore_n 2, 0, 0, 0), (17, .iconst 0, 0, 0, 0), (18, .istore_n 3, 0, 0, 0), (19, .iconst 0, 0, 0, 0), (20, .istore 4, 0, 0, 0)] : List zz_i)),
  (22, 43, ([(22, .iload 4, 0, 0, 0), (24, .aload_n 0, 0, 0, 0), (25, .getfield 110, 11, 1, 0), (28, .if_icmp .ge 57, 0, 0, 0), (31, .iload_n 1, 0, 0, 0), (32, .iload 4, 0, 0, 0), (34, .invokestatic 230, 202, 2, 0), (37, .ifCond .ne 6, 0, 0, 0), (40, .goto 39, 0, 0, 0)] : List zz_i)),
  (43, 67, ([(43, .aload_n 0, 0, 0, 0), (44, .iload 4, 0, 0, 0), (46, .invokevirtual 214, 208, 2, 11), (49, .ifCond .ne 18, 0, 0, 0), (52, .iload_n 2, 0, 0, 0), (53, .iconst 1, 0, 0, 0), (54, .aload_n 0, 0, 0, 0), (55, .iload 4, 0, 0, 0), (57, .iconst 5, 0, 0, 0), (58, .invokevirtual 117, 207, 3, 11), (61, .ishl, 0, 0, 0), (62, .ior, 0, 0, 0), (63, .istore_n 2, 0, 0, 0), (64, .goto 15, 0, 0, 0)] : List zz_i)),
  (67, 79, ([(67, .iload_n 3, 0, 0, 0), (68, .iconst 1, 0, 0, 0), (69, .aload_n 0, 0, 0, 0), (70, .iload 4, 0, 0, 0), (72, .iconst 5, 0, 0, 0), (73, .invokevirtual 117, 207, 3, 11), (76, .ishl, 0, 0, 0), (77, .ior, 0, 0, 0), (78, .istore_n 3, 0, 0, 0)] : List zz_i)),
  (79, 85, ([(79, .iinc 4 1, 0, 0, 0), (82, .goto (-60), 0, 0, 0)] : List zz_i)),
  (85, 112, ([(85, .aload_n 0, 0, 0, 0), (86, .iconst 0, 0, 0, 0), (87, .putfield 107, 11, 6, 0), (90, .aload_n 0, 0, 0, 0), (91, .iload_n 2, 0, 0, 0), (92, .i2l, 0, 0, 0), (93, .invokevirtual 286, 204, 2, 11), (96, .aload_n 0, 0, 0, 0), (97, .iload_n 3, 0, 0, 0), (98, .i2l, 0, 0, 0), (99, .invokevirtual 286, 204, 2, 11), (102, .iload_n 2, 0, 0, 0), (103, .invokestatic 217, 308, 1, 0), (106, .iload_n 3, 0, 0, 0), (107, .invokestatic 217, 308, 1, 0), (110, .iadd, 0, 0, 0), (111, .ireturn, 0, 0, 0)] : List zz_i))])
/-- 276: X12_spare spare()I  -/
def zm_276 : zz_MI := (⟨"OneStageTwoPlaysModel", "spare", "()I"⟩, prog_14_method_78_code, 5, (some .int), [(0, 22, ([(0, .aload_n 0, 0, 0, 0), (1, .iconst 0, 0, 0, 0), (2, .putfield 103, 11, 7, 0), (5, .aload_n 0, 0, 0, 0), (6, .iconst 0, 0, 0, 0), (7, .invokevirtual 247, 232, 2, 11), (10, .istore_n 1, 0, 0, 0), (11, .aload_n 0, 0, 0, 0), (12, .iload_n 1, 0, 0, 0), (13, .invokevirtual 345, 273, 2, 11), (16, .istore_n 2, 0, 0, 0), (17, .iconst 0, 0, 0, 0), (18, .istore_n 3, 0, 0, 0), (19, .iconst 0, 0, 0, 0), (20, .istore 4, 0, 0, 0)] : List zz_i)),
  (22, 67, ([(22, .iload 4, 0, 0, 0), (24, .aload_n 0, 0, 0, 0), (25, .getfield 110, 11, 1, 0), (28, .if_icmp .ge 48, 0, 0, 0), (31, .iload_n 3, 0, 0, 0), (32, .iload_n 1, 0, 0, 0), (33, .iload 4, 0, 0, 0), (35, .invokestatic 230, 202, 2, 0), (38, .ifCond .eq 29, 0, 0, 0), (41, .aload_n 0, 0, 0, 0), (42, .iload_n 1, 0, 0, 0), (43, .iconst 1, 0, 0, 0), (44, .iload 4, 0, 0, 0), (46, .ishl, 0, 0, 0), (47, .iconst (-1), 0, 0, 0), (48, .ixor, 0, 0, 0), (49, .iand, 0, 0, 0), (50, .invokevirtual 345, 273, 2, 11), (53, .iload_n 2, 0, 0, 0), (54, .iconst (-1), 0, 0, 0), (55, .ixor, 0, 0, 0), (56, .iand, 0, 0, 0), (57, .ifCond .ne 10, 0, 0, 0), (60, .iconst 1, 0, 0, 0), (61, .iload 4, 0, 0, 0), (63, .ishl, 0, 0, 0), (64, .goto 4, 0, 0, 0)] : List zz_i)),
  (67, 68, ([(67, .iconst 0, 0, 0, 0)] : List zz_i)),
  (68, 76, ([(68, .ior, 0, 0, 0), (69, .istore_n 3, 0, 0, 0), (70, .iinc 4 1, 0, 0, 0), (73, .goto (-51), 0, 0, 0)] : List zz_i)),
  (76, 92, ([(76, .aload_n 0, 0, 0, 0), (77, .iconst 0, 0, 0, 0), (78, .putfield 107, 11, 6, 0), (81, .aload_n 0, 0, 0, 0), (82, .iload_n 3, 0, 0, 0), (83, .invokestatic 217, 308, 1, 0), (86, .i2l, 0, 0, 0), (87, .invokevirtual 286, 204, 2, 11), (90, .iload_n 3, 0, 0, 0), (91, .ireturn, 0, 0, 0)] : List zz_i))])
/-- 277: X12_knownOf knownOf(II)I  -/
def zm_277 : zz_MI := (⟨"OneStageTwoPlaysModel", "knownOf", "(II)I"⟩, prog_14_method_79_code, 5, (some .int), [(0, 13, ([(0, .aload_n 0, 0, 0, 0), (1, .getfield 9, 11, 0, 0), (4, .bipush 14, 0, 0, 0), (6, .iload_n 1, 0, 0, 0), (7, .iadd, 0, 0, 0), (8, .iaload, 0, 0, 0), (9, .istore_n 3, 0, 0, 0), (10, .iconst 0, 0, 0, 0), (11, .istore 4, 0, 0, 0)] : List zz_i)),
  (13, 41, ([(13, .iload 4, 0, 0, 0), (15, .aload_n 0, 0, 0, 0), (16, .getfield 110, 11, 1, 0), (19, .if_icmp .ge 30, 0, 0, 0), (22, .iload_n 2, 0, 0, 0), (23, .iload 4, 0, 0, 0), (25, .invokestatic 230, 202, 2, 0), (28, .ifCond .eq 13, 0, 0, 0), (31, .aload_n 0, 0, 0, 0), (32, .iload_n 3, 0, 0, 0), (33, .iload 4, 0, 0, 0), (35, .invokevirtual 276, 243, 3, 11), (38, .goto 4, 0, 0, 0)] : List zz_i)),
  (41, 42, ([(41, .iload_n 3, 0, 0, 0)] : List zz_i)),
  (42, 49, ([(42, .istore_n 3, 0, 0, 0), (43, .iinc 4 1, 0, 0, 0), (46, .goto (-33), 0, 0, 0)] : List zz_i)),
  (49, 51, ([(49, .iload_n 3, 0, 0, 0), (50, .ireturn, 0, 0, 0)] : List zz_i))])
/-- 278: X12_cheers cheers(I)I  -/
def zm_278 : zz_MI := (⟨"OneStageTwoPlaysModel", "cheers", "(I)I"⟩, prog_14_method_80_code, 7, (some .int), [(0, 14, ([(0, .aload_n 0, 0, 0, 0), (1, .iconst 0, 0, 0, 0), (2, .putfield 103, 11, 7, 0), (5, .iload_n 1, 0, 0, 0), (6, .invokestatic 244, 206, 1, 0), (9, .ifCond .ne 5, 0, 0, 0), (12, .iconst (-1), 0, 0, 0), (13, .ireturn, 0, 0, 0)] : List zz_i)),
  (14, 41, ([(14, .aload_n 0, 0, 0, 0), (15, .aload_n 0, 0, 0, 0), (16, .iconst 0, 0, 0, 0), (17, .invokevirtual 247, 232, 2, 11), (20, .iload_n 1, 0, 0, 0), (21, .invokevirtual 250, 233, 3, 11), (24, .istore_n 2, 0, 0, 0), (25, .aload_n 0, 0, 0, 0), (26, .getfield 9, 11, 0, 0), (29, .bipush 14, 0, 0, 0), (31, .iload_n 1, 0, 0, 0), (32, .iadd, 0, 0, 0), (33, .iaload, 0, 0, 0), (34, .istore_n 3, 0, 0, 0), (35, .iconst 0, 0, 0, 0), (36, .istore 4, 0, 0, 0), (38, .iconst 0, 0, 0, 0), (39, .istore 5, 0, 0, 0)] : List zz_i)),
  (41, 62, ([(41, .iload 5, 0, 0, 0), (43, .aload_n 0, 0, 0, 0), (44, .getfield 110, 11, 1, 0), (47, .if_icmp .ge 41, 0, 0, 0), (50, .iload_n 2, 0, 0, 0), (51, .iload 5, 0, 0, 0), (53, .invokestatic 230, 202, 2, 0), (56, .ifCond .ne 6, 0, 0, 0), (59, .goto 23, 0, 0, 0)] : List zz_i)),
  (62, 82, ([(62, .iload 4, 0, 0, 0), (64, .aload_n 0, 0, 0, 0), (65, .iload_n 3, 0, 0, 0), (66, .iload 5, 0, 0, 0), (68, .invokevirtual 273, 245, 3, 11), (71, .iadd, 0, 0, 0), (72, .istore 4, 0, 0, 0), (74, .aload_n 0, 0, 0, 0), (75, .iload_n 3, 0, 0, 0), (76, .iload 5, 0, 0, 0), (78, .invokevirtual 276, 243, 3, 11), (81, .istore_n 3, 0, 0, 0)] : List zz_i)),
  (82, 88, ([(82, .iinc 5 1, 0, 0, 0), (85, .goto (-44), 0, 0, 0)] : List zz_i)),
  (88, 91, ([(88, .iconst 0, 0, 0, 0), (89, .istore 5, 0, 0, 0)] : List zz_i)),
  (91, 109, ([(91, .iload 5, 0, 0, 0), (93, .iload_n 2, 0, 0, 0), (94, .if_icmp .gt 109, 0, 0, 0), (97, .iload 5, 0, 0, 0), (99, .iload_n 2, 0, 0, 0), (100, .iconst (-1), 0, 0, 0), (101, .ixor, 0, 0, 0), (102, .iand, 0, 0, 0), (103, .ifCond .eq 6, 0, 0, 0), (106, .goto 91, 0, 0, 0)] : List zz_i)),
  (109, 120, ([(109, .aload_n 0, 0, 0, 0), (110, .getfield 84, 11, 40, 0), (113, .iload 5, 0, 0, 0), (115, .iconst 0, 0, 0, 0), (116, .iastore, 0, 0, 0), (117, .iconst 0, 0, 0, 0), (118, .istore 6, 0, 0, 0)] : List zz_i)),
  (120, 191, ([(120, .iload 6, 0, 0, 0), (122, .aload_n 0, 0, 0, 0), (123, .getfield 110, 11, 1, 0), (126, .if_icmp .ge 71, 0, 0, 0), (129, .iload 5, 0, 0, 0), (131, .iload 6, 0, 0, 0), (133, .invokestatic 230, 202, 2, 0), (136, .ifCond .eq 55, 0, 0, 0), (139, .aload_n 0, 0, 0, 0), (140, .getfield 84, 11, 40, 0), (143, .iload 5, 0, 0, 0), (145, .aload_n 0, 0, 0, 0), (146, .getfield 84, 11, 40, 0), (149, .iload 5, 0, 0, 0), (151, .iaload, 0, 0, 0), (152, .aload_n 0, 0, 0, 0), (153, .getfield 84, 11, 40, 0), (156, .iload 5, 0, 0, 0), (158, .iconst 1, 0, 0, 0), (159, .iload 6, 0, 0, 0), (161, .ishl, 0, 0, 0), (162, .iconst (-1), 0, 0, 0), (163, .ixor, 0, 0, 0), (164, .iand, 0, 0, 0), (165, .iaload, 0, 0, 0), (166, .aload_n 0, 0, 0, 0), (167, .aload_n 0, 0, 0, 0), (168, .iload_n 1, 0, 0, 0), (169, .iload 5, 0, 0, 0), (171, .iconst 1, 0, 0, 0), (172, .iload 6, 0, 0, 0), (174, .ishl, 0, 0, 0), (175, .iconst (-1), 0, 0, 0), (176, .ixor, 0, 0, 0), (177, .iand, 0, 0, 0), (178, .invokevirtual 348, 277, 3, 11), (181, .iload 6, 0, 0, 0), (183, .invokevirtual 273, 245, 3, 11), (186, .iadd, 0, 0, 0), (187, .invokestatic 227, 309, 2, 0), (190, .iastore, 0, 0, 0)] : List zz_i)),
  (191, 197, ([(191, .iinc 6 1, 0, 0, 0), (194, .goto (-74), 0, 0, 0)] : List zz_i)),
  (197, 203, ([(197, .iinc 5 1, 0, 0, 0), (200, .goto (-109), 0, 0, 0)] : List zz_i)),
  (203, 222, ([(203, .aload_n 0, 0, 0, 0), (204, .iconst 0, 0, 0, 0), (205, .putfield 107, 11, 6, 0), (208, .aload_n 0, 0, 0, 0), (209, .aload_n 0, 0, 0, 0), (210, .getfield 84, 11, 40, 0), (213, .iload_n 2, 0, 0, 0), (214, .iaload, 0, 0, 0), (215, .i2l, 0, 0, 0), (216, .invokevirtual 286, 204, 2, 11), (219, .iload 4, 0, 0, 0), (221, .ireturn, 0, 0, 0)] : List zz_i))])
/-- 279: X12_withPerson withPerson(II)I  -/
def zm_279 : zz_MI := (⟨"OneStageTwoPlaysModel", "withPerson", "(II)I"⟩, prog_14_method_81_code, 5, (some .int), [(0, 5, ([(0, .iconst 0, 0, 0, 0), (1, .istore_n 3, 0, 0, 0), (2, .iconst 0, 0, 0, 0), (3, .istore 4, 0, 0, 0)] : List zz_i)),
  (5, 43, ([(5, .iload 4, 0, 0, 0), (7, .aload_n 0, 0, 0, 0), (8, .getfield 110, 11, 1, 0), (11, .if_icmp .ge 41, 0, 0, 0), (14, .iload_n 3, 0, 0, 0), (15, .iload_n 1, 0, 0, 0), (16, .iload 4, 0, 0, 0), (18, .invokestatic 230, 202, 2, 0), (21, .ifCond .eq 22, 0, 0, 0), (24, .aload_n 0, 0, 0, 0), (25, .iload 4, 0, 0, 0), (27, .iconst 2, 0, 0, 0), (28, .invokevirtual 117, 207, 3, 11), (31, .iload_n 2, 0, 0, 0), (32, .iand, 0, 0, 0), (33, .ifCond .eq 10, 0, 0, 0), (36, .iconst 1, 0, 0, 0), (37, .iload 4, 0, 0, 0), (39, .ishl, 0, 0, 0), (40, .goto 4, 0, 0, 0)] : List zz_i)),
  (43, 44, ([(43, .iconst 0, 0, 0, 0)] : List zz_i)),
  (44, 52, ([(44, .ior, 0, 0, 0), (45, .istore_n 3, 0, 0, 0), (46, .iinc 4 1, 0, 0, 0), (49, .goto (-44), 0, 0, 0)] : List zz_i)),
  (52, 54, ([(52, .iload_n 3, 0, 0, 0), (53, .ireturn, 0, 0, 0)] : List zz_i))])
/-- 280: X12_who who(I)I  -/
def zm_280 : zz_MI := (⟨"OneStageTwoPlaysModel", "who", "(I)I"⟩, prog_14_method_82_code, 3, (some .int), [(0, 16, ([(0, .aload_n 0, 0, 0, 0), (1, .iconst 0, 0, 0, 0), (2, .putfield 103, 11, 7, 0), (5, .iload_n 1, 0, 0, 0), (6, .iconst 0, 0, 0, 0), (7, .iconst 5, 0, 0, 0), (8, .invokestatic 113, 201, 3, 0), (11, .ifCond .ne 5, 0, 0, 0), (14, .iconst (-1), 0, 0, 0), (15, .ireturn, 0, 0, 0)] : List zz_i)),
  (16, 67, ([(16, .aload_n 0, 0, 0, 0), (17, .iconst 1, 0, 0, 0), (18, .aload_n 0, 0, 0, 0), (19, .getfield 110, 11, 1, 0), (22, .ishl, 0, 0, 0), (23, .iconst 1, 0, 0, 0), (24, .isub, 0, 0, 0), (25, .iconst 1, 0, 0, 0), (26, .iload_n 1, 0, 0, 0), (27, .ishl, 0, 0, 0), (28, .invokevirtual 351, 279, 3, 11), (31, .istore_n 2, 0, 0, 0), (32, .aload_n 0, 0, 0, 0), (33, .iconst 0, 0, 0, 0), (34, .putfield 107, 11, 6, 0), (37, .aload_n 0, 0, 0, 0), (38, .aload_n 0, 0, 0, 0), (39, .iload_n 2, 0, 0, 0), (40, .iconst 0, 0, 0, 0), (41, .invokevirtual 250, 233, 3, 11), (44, .invokestatic 217, 308, 1, 0), (47, .i2l, 0, 0, 0), (48, .invokevirtual 286, 204, 2, 11), (51, .aload_n 0, 0, 0, 0), (52, .aload_n 0, 0, 0, 0), (53, .iload_n 2, 0, 0, 0), (54, .iconst 1, 0, 0, 0), (55, .invokevirtual 250, 233, 3, 11), (58, .invokestatic 217, 308, 1, 0), (61, .i2l, 0, 0, 0), (62, .invokevirtual 286, 204, 2, 11), (65, .iload_n 2, 0, 0, 0), (66, .ireturn, 0, 0, 0)] : List zz_i))])
/-- 281: X12_personsOf personsOf(I)I  -/
def zm_281 : zz_MI := (⟨"OneStageTwoPlaysModel", "personsOf", "(I)I"⟩, prog_14_method_83_code, 4, (some .int), [(0, 4, ([(0, .iconst 0, 0, 0, 0), (1, .istore_n 2, 0, 0, 0), (2, .iconst 0, 0, 0, 0), (3, .istore_n 3, 0, 0, 0)] : List zz_i)),
  (4, 30, ([(4, .iload_n 3, 0, 0, 0), (5, .aload_n 0, 0, 0, 0), (6, .getfield 110, 11, 1, 0), (9, .if_icmp .ge 30, 0, 0, 0), (12, .iload_n 2, 0, 0, 0), (13, .iload_n 1, 0, 0, 0), (14, .iload_n 3, 0, 0, 0), (15, .invokestatic 230, 202, 2, 0), (18, .ifCond .eq 12, 0, 0, 0), (21, .aload_n 0, 0, 0, 0), (22, .iload_n 3, 0, 0, 0), (23, .iconst 2, 0, 0, 0), (24, .invokevirtual 117, 207, 3, 11), (27, .goto 4, 0, 0, 0)] : List zz_i)),
  (30, 31, ([(30, .iconst 0, 0, 0, 0)] : List zz_i)),
  (31, 39, ([(31, .ior, 0, 0, 0), (32, .istore_n 2, 0, 0, 0), (33, .iinc 3 1, 0, 0, 0), (36, .goto (-32), 0, 0, 0)] : List zz_i)),
  (39, 41, ([(39, .iload_n 2, 0, 0, 0), (40, .ireturn, 0, 0, 0)] : List zz_i))])
/-- 282: X12_kings kings()I  -/
def zm_282 : zz_MI := (⟨"OneStageTwoPlaysModel", "kings", "()I"⟩, prog_14_method_84_code, 3, (some .int), [(0, 64, ([(0, .aload_n 0, 0, 0, 0), (1, .iconst 0, 0, 0, 0), (2, .putfield 103, 11, 7, 0), (5, .aload_n 0, 0, 0, 0), (6, .iconst 0, 0, 0, 0), (7, .invokevirtual 247, 232, 2, 11), (10, .istore_n 1, 0, 0, 0), (11, .aload_n 0, 0, 0, 0), (12, .aload_n 0, 0, 0, 0), (13, .iload_n 1, 0, 0, 0), (14, .iconst 0, 0, 0, 0), (15, .invokevirtual 250, 233, 3, 11), (18, .invokevirtual 354, 281, 2, 11), (21, .aload_n 0, 0, 0, 0), (22, .aload_n 0, 0, 0, 0), (23, .iload_n 1, 0, 0, 0), (24, .iconst 1, 0, 0, 0), (25, .invokevirtual 250, 233, 3, 11), (28, .invokevirtual 354, 281, 2, 11), (31, .iand, 0, 0, 0), (32, .istore_n 2, 0, 0, 0), (33, .aload_n 0, 0, 0, 0), (34, .iconst 0, 0, 0, 0), (35, .putfield 107, 11, 6, 0), (38, .aload_n 0, 0, 0, 0), (39, .iload_n 2, 0, 0, 0), (40, .invokestatic 217, 308, 1, 0), (43, .i2l, 0, 0, 0), (44, .invokevirtual 286, 204, 2, 11), (47, .aload_n 0, 0, 0, 0), (48, .aload_n 0, 0, 0, 0), (49, .aload_n 0, 0, 0, 0), (50, .iload_n 1, 0, 0, 0), (51, .iload_n 2, 0, 0, 0), (52, .invokevirtual 351, 279, 3, 11), (55, .invokevirtual 257, 234, 2, 11), (58, .i2l, 0, 0, 0), (59, .invokevirtual 286, 204, 2, 11), (62, .iload_n 2, 0, 0, 0), (63, .ireturn, 0, 0, 0)] : List zz_i))])
/-- 283: X12_stand stand()I  -/
def zm_283 : zz_MI := (⟨"OneStageTwoPlaysModel", "stand", "()I"⟩, prog_14_method_85_code, 4, (some .int), [(0, 12, ([(0, .aload_n 0, 0, 0, 0), (1, .iconst 0, 0, 0, 0), (2, .putfield 103, 11, 7, 0), (5, .bipush 15, 0, 0, 0), (7, .istore_n 1, 0, 0, 0), (8, .iconst 0, 0, 0, 0), (9, .istore_n 2, 0, 0, 0), (10, .iconst 0, 0, 0, 0), (11, .istore_n 3, 0, 0, 0)] : List zz_i)),
  (12, 32, ([(12, .iload_n 3, 0, 0, 0), (13, .aload_n 0, 0, 0, 0), (14, .getfield 110, 11, 1, 0), (17, .if_icmp .ge 39, 0, 0, 0), (20, .aload_n 0, 0, 0, 0), (21, .getfield 9, 11, 0, 0), (24, .iload_n 3, 0, 0, 0), (25, .iaload, 0, 0, 0), (26, .ifCond .eq 6, 0, 0, 0), (29, .goto 21, 0, 0, 0)] : List zz_i)),
  (32, 50, ([(32, .iload_n 1, 0, 0, 0), (33, .aload_n 0, 0, 0, 0), (34, .iload_n 3, 0, 0, 0), (35, .iconst 3, 0, 0, 0), (36, .invokevirtual 117, 207, 3, 11), (39, .iand, 0, 0, 0), (40, .istore_n 1, 0, 0, 0), (41, .iload_n 2, 0, 0, 0), (42, .aload_n 0, 0, 0, 0), (43, .iload_n 3, 0, 0, 0), (44, .iconst 3, 0, 0, 0), (45, .invokevirtual 117, 207, 3, 11), (48, .ior, 0, 0, 0), (49, .istore_n 2, 0, 0, 0)] : List zz_i)),
  (50, 56, ([(50, .iinc 3 1, 0, 0, 0), (53, .goto (-41), 0, 0, 0)] : List zz_i)),
  (56, 74, ([(56, .aload_n 0, 0, 0, 0), (57, .iconst 0, 0, 0, 0), (58, .putfield 107, 11, 6, 0), (61, .aload_n 0, 0, 0, 0), (62, .bipush 15, 0, 0, 0), (64, .iload_n 2, 0, 0, 0), (65, .iconst (-1), 0, 0, 0), (66, .ixor, 0, 0, 0), (67, .iand, 0, 0, 0), (68, .i2l, 0, 0, 0), (69, .invokevirtual 286, 204, 2, 11), (72, .iload_n 1, 0, 0, 0), (73, .ireturn, 0, 0, 0)] : List zz_i))])
/-- 284: X12_guard guard()I  -/
def zm_284 : zz_MI := (⟨"OneStageTwoPlaysModel", "guard", "()I"⟩, prog_14_method_86_code, 5, (some .int), [(0, 25, ([(0, .aload_n 0, 0, 0, 0), (1, .iconst 0, 0, 0, 0), (2, .putfield 103, 11, 7, 0), (5, .aload_n 0, 0, 0, 0), (6, .iconst 0, 0, 0, 0), (7, .invokevirtual 247, 232, 2, 11), (10, .istore_n 1, 0, 0, 0), (11, .aload_n 0, 0, 0, 0), (12, .iload_n 1, 0, 0, 0), (13, .bipush 63, 0, 0, 0), (15, .invokevirtual 351, 279, 3, 11), (18, .istore_n 2, 0, 0, 0), (19, .bipush 63, 0, 0, 0), (21, .istore_n 3, 0, 0, 0), (22, .iconst 0, 0, 0, 0), (23, .istore 4, 0, 0, 0)] : List zz_i)),
  (25, 58, ([(25, .iload 4, 0, 0, 0), (27, .bipush 64, 0, 0, 0), (29, .if_icmp .ge 35, 0, 0, 0), (32, .iload 4, 0, 0, 0), (34, .invokestatic 217, 308, 1, 0), (37, .iload_n 3, 0, 0, 0), (38, .invokestatic 217, 308, 1, 0), (41, .if_icmp .ge 17, 0, 0, 0), (44, .aload_n 0, 0, 0, 0), (45, .iload_n 1, 0, 0, 0), (46, .iload 4, 0, 0, 0), (48, .invokevirtual 351, 279, 3, 11), (51, .iload_n 2, 0, 0, 0), (52, .if_icmp .ne 6, 0, 0, 0), (55, .iload 4, 0, 0, 0), (57, .istore_n 3, 0, 0, 0)] : List zz_i)),
  (58, 64, ([(58, .iinc 4 1, 0, 0, 0), (61, .goto (-36), 0, 0, 0)] : List zz_i)),
  (64, 80, ([(64, .aload_n 0, 0, 0, 0), (65, .iconst 0, 0, 0, 0), (66, .putfield 107, 11, 6, 0), (69, .aload_n 0, 0, 0, 0), (70, .iload_n 3, 0, 0, 0), (71, .i2l, 0, 0, 0), (72, .invokevirtual 286, 204, 2, 11), (75, .iload_n 3, 0, 0, 0), (76, .invokestatic 217, 308, 1, 0), (79, .ireturn, 0, 0, 0)] : List zz_i))])
/-- 285: X12_common common(JJ)J  -/
def zm_285 : zz_MI := (⟨"OneStageTwoPlaysModel", "common", "(JJ)J"⟩, prog_14_method_87_code, 4, (some .long), [(0, 10, ([(0, .lload_n 2, 0, 0, 0), (1, .lconst 0, 0, 0, 0), (2, .lcmp, 0, 0, 0), (3, .ifCond .ne 7, 0, 0, 0), (6, .lload_n 0, 0, 0, 0), (7, .goto 10, 0, 0, 0)] : List zz_i)),
  (10, 17, ([(10, .lload_n 2, 0, 0, 0), (11, .lload_n 0, 0, 0, 0), (12, .lload_n 2, 0, 0, 0), (13, .lrem, 0, 0, 0), (14, .invokestatic 357, 285, 2, 0)] : List zz_i)),
  (17, 18, ([(17, .lreturn, 0, 0, 0)] : List zz_i))])
/-- 286: X12_tellPart tellPart(JJ)V  -/
def zm_286 : zz_MI := (⟨"OneStageTwoPlaysModel", "tellPart", "(JJ)V"⟩, prog_14_method_88_code, 7, none, [(0, 29, ([(0, .lload_n 1, 0, 0, 0), (1, .lload_n 3, 0, 0, 0), (2, .invokestatic 357, 285, 2, 0), (5, .lstore 5, 0, 0, 0), (7, .aload_n 0, 0, 0, 0), (8, .iconst 0, 0, 0, 0), (9, .putfield 107, 11, 6, 0), (12, .aload_n 0, 0, 0, 0), (13, .lload_n 1, 0, 0, 0), (14, .lload 5, 0, 0, 0), (16, .ldiv, 0, 0, 0), (17, .invokevirtual 286, 204, 2, 11), (20, .aload_n 0, 0, 0, 0), (21, .lload_n 3, 0, 0, 0), (22, .lload 5, 0, 0, 0), (24, .ldiv, 0, 0, 0), (25, .invokevirtual 286, 204, 2, 11), (28, .return_, 0, 0, 0)] : List zz_i))])
/-- 287: X12_power power(JI)J  -/
def zm_287 : zz_MI := (⟨"OneStageTwoPlaysModel", "power", "(JI)J"⟩, prog_14_method_89_code, 6, (some .long), [(0, 5, ([(0, .lconst 1, 0, 0, 0), (1, .lstore_n 3, 0, 0, 0), (2, .iconst 0, 0, 0, 0), (3, .istore 5, 0, 0, 0)] : List zz_i)),
  (5, 21, ([(5, .iload 5, 0, 0, 0), (7, .iload_n 2, 0, 0, 0), (8, .if_icmp .ge 13, 0, 0, 0), (11, .lload_n 3, 0, 0, 0), (12, .lload_n 0, 0, 0, 0), (13, .lmul, 0, 0, 0), (14, .lstore_n 3, 0, 0, 0), (15, .iinc 5 1, 0, 0, 0), (18, .goto (-13), 0, 0, 0)] : List zz_i)),
  (21, 23, ([(21, .lload_n 3, 0, 0, 0), (22, .lreturn, 0, 0, 0)] : List zz_i))])
/-- 288: X12_chance chance(II)I  -/
def zm_288 : zz_MI := (⟨"OneStageTwoPlaysModel", "chance", "(II)I"⟩, prog_14_method_90_code, 4, (some .int), [(0, 22, ([(0, .aload_n 0, 0, 0, 0), (1, .iconst 0, 0, 0, 0), (2, .putfield 103, 11, 7, 0), (5, .iload_n 1, 0, 0, 0), (6, .invokestatic 244, 206, 1, 0), (9, .ifCond .eq 13, 0, 0, 0), (12, .iload_n 2, 0, 0, 0), (13, .iconst 0, 0, 0, 0), (14, .bipush 10, 0, 0, 0), (16, .invokestatic 113, 201, 3, 0), (19, .ifCond .ne 5, 0, 0, 0)] : List zz_i)),
  (22, 24, ([(22, .iconst (-1), 0, 0, 0), (23, .ireturn, 0, 0, 0)] : List zz_i)),
  (24, 64, ([(24, .aload_n 0, 0, 0, 0), (25, .aload_n 0, 0, 0, 0), (26, .aload_n 0, 0, 0, 0), (27, .iconst 0, 0, 0, 0), (28, .invokevirtual 247, 232, 2, 11), (31, .iload_n 1, 0, 0, 0), (32, .invokevirtual 250, 233, 3, 11), (35, .invokevirtual 354, 281, 2, 11), (38, .invokestatic 217, 308, 1, 0), (41, .istore_n 3, 0, 0, 0), (42, .aload_n 0, 0, 0, 0), (43, .bipush 10, 0, 0, 0), (45, .iload_n 2, 0, 0, 0), (46, .isub, 0, 0, 0), (47, .i2l, 0, 0, 0), (48, .iload_n 3, 0, 0, 0), (49, .invokestatic 361, 287, 2, 0), (52, .ldc2_w 365, 10, 0, 0), (55, .iload_n 3, 0, 0, 0), (56, .invokestatic 361, 287, 2, 0), (59, .invokevirtual 367, 286, 3, 11), (62, .iconst 0, 0, 0, 0), (63, .ireturn, 0, 0, 0)] : List zz_i))])
/-- 289: X12_likely likely(I)I  -/
def zm_289 : zz_MI := (⟨"OneStageTwoPlaysModel", "likely", "(I)I"⟩, prog_14_method_91_code, 6, (some .int), [(0, 17, ([(0, .aload_n 0, 0, 0, 0), (1, .iconst 0, 0, 0, 0), (2, .putfield 103, 11, 7, 0), (5, .iload_n 1, 0, 0, 0), (6, .iconst 0, 0, 0, 0), (7, .bipush 10, 0, 0, 0), (9, .invokestatic 113, 201, 3, 0), (12, .ifCond .ne 5, 0, 0, 0), (15, .iconst (-1), 0, 0, 0), (16, .ireturn, 0, 0, 0)] : List zz_i)),
  (17, 25, ([(17, .aload_n 0, 0, 0, 0), (18, .iconst 0, 0, 0, 0), (19, .invokevirtual 247, 232, 2, 11), (22, .istore_n 2, 0, 0, 0), (23, .iconst 0, 0, 0, 0), (24, .istore_n 3, 0, 0, 0)] : List zz_i)),
  (25, 44, ([(25, .iload_n 3, 0, 0, 0), (26, .bipush 12, 0, 0, 0), (28, .if_icmp .gt 16, 0, 0, 0), (31, .aload_n 0, 0, 0, 0), (32, .getfield 87, 11, 41, 0), (35, .iload_n 3, 0, 0, 0), (36, .lconst 0, 0, 0, 0), (37, .lastore, 0, 0, 0), (38, .iinc 3 1, 0, 0, 0), (41, .goto (-16), 0, 0, 0)] : List zz_i)),
  (44, 46, ([(44, .iconst 0, 0, 0, 0), (45, .istore_n 3, 0, 0, 0)] : List zz_i)),
  (46, 110, ([(46, .iload_n 3, 0, 0, 0), (47, .bipush 64, 0, 0, 0), (49, .if_icmp .ge 61, 0, 0, 0), (52, .iload_n 3, 0, 0, 0), (53, .invokestatic 217, 308, 1, 0), (56, .istore 4, 0, 0, 0), (58, .iload_n 2, 0, 0, 0), (59, .aload_n 0, 0, 0, 0), (60, .iload_n 2, 0, 0, 0), (61, .iload_n 3, 0, 0, 0), (62, .invokevirtual 351, 279, 3, 11), (65, .iconst (-1), 0, 0, 0), (66, .ixor, 0, 0, 0), (67, .iand, 0, 0, 0), (68, .invokestatic 217, 308, 1, 0), (71, .istore 5, 0, 0, 0), (73, .aload_n 0, 0, 0, 0), (74, .getfield 87, 11, 41, 0), (77, .iload 5, 0, 0, 0), (79, .dup2, 0, 0, 0), (80, .laload, 0, 0, 0), (81, .iload_n 1, 0, 0, 0), (82, .i2l, 0, 0, 0), (83, .iload 4, 0, 0, 0), (85, .invokestatic 361, 287, 2, 0), (88, .bipush 10, 0, 0, 0), (90, .iload_n 1, 0, 0, 0), (91, .isub, 0, 0, 0), (92, .i2l, 0, 0, 0), (93, .bipush 6, 0, 0, 0), (95, .iload 4, 0, 0, 0), (97, .isub, 0, 0, 0), (98, .invokestatic 361, 287, 2, 0), (101, .lmul, 0, 0, 0), (102, .ladd, 0, 0, 0), (103, .lastore, 0, 0, 0), (104, .iinc 3 1, 0, 0, 0), (107, .goto (-61), 0, 0, 0)] : List zz_i)),
  (110, 115, ([(110, .iconst 0, 0, 0, 0), (111, .istore_n 3, 0, 0, 0), (112, .iconst 1, 0, 0, 0), (113, .istore 4, 0, 0, 0)] : List zz_i)),
  (115, 142, ([(115, .iload 4, 0, 0, 0), (117, .bipush 12, 0, 0, 0), (119, .if_icmp .gt 29, 0, 0, 0), (122, .aload_n 0, 0, 0, 0), (123, .getfield 87, 11, 41, 0), (126, .iload 4, 0, 0, 0), (128, .laload, 0, 0, 0), (129, .aload_n 0, 0, 0, 0), (130, .getfield 87, 11, 41, 0), (133, .iload_n 3, 0, 0, 0), (134, .laload, 0, 0, 0), (135, .lcmp, 0, 0, 0), (136, .ifCond .le 6, 0, 0, 0), (139, .iload 4, 0, 0, 0), (141, .istore_n 3, 0, 0, 0)] : List zz_i)),
  (142, 148, ([(142, .iinc 4 1, 0, 0, 0), (145, .goto (-30), 0, 0, 0)] : List zz_i)),
  (148, 168, ([(148, .aload_n 0, 0, 0, 0), (149, .aload_n 0, 0, 0, 0), (150, .getfield 87, 11, 41, 0), (153, .iload_n 3, 0, 0, 0), (154, .laload, 0, 0, 0), (155, .ldc2_w 365, 10, 0, 0), (158, .bipush 6, 0, 0, 0), (160, .invokestatic 361, 287, 2, 0), (163, .invokevirtual 367, 286, 3, 11), (166, .iload_n 3, 0, 0, 0), (167, .ireturn, 0, 0, 0)] : List zz_i))])
/-- 290: X12_gets gets(III)I  -/
def zm_290 : zz_MI := (⟨"OneStageTwoPlaysModel", "gets", "(III)I"⟩, prog_14_method_92_code, 3, (some .int), [(0, 11, ([(0, .iload_n 0, 0, 0, 0), (1, .iload_n 1, 0, 0, 0), (2, .iadd, 0, 0, 0), (3, .iload_n 2, 0, 0, 0), (4, .if_icmp .gt 7, 0, 0, 0), (7, .iload_n 0, 0, 0, 0), (8, .goto 20, 0, 0, 0)] : List zz_i)),
  (11, 28, ([(11, .iconst 0, 0, 0, 0), (12, .iload_n 2, 0, 0, 0), (13, .iconst 2, 0, 0, 0), (14, .idiv, 0, 0, 0), (15, .iconst 0, 0, 0, 0), (16, .iload_n 0, 0, 0, 0), (17, .iload_n 2, 0, 0, 0), (18, .iconst 2, 0, 0, 0), (19, .idiv, 0, 0, 0), (20, .isub, 0, 0, 0), (21, .invokestatic 227, 309, 2, 0), (24, .isub, 0, 0, 0), (25, .invokestatic 227, 309, 2, 0)] : List zz_i)),
  (28, 29, ([(28, .ireturn, 0, 0, 0)] : List zz_i))])
/-- 291: X12_isBest isBest(III)Z  -/
def zm_291 : zz_MI := (⟨"OneStageTwoPlaysModel", "isBest", "(III)Z"⟩, prog_14_method_93_code, 4, (some .boolean), [(0, 2, ([(0, .iconst 0, 0, 0, 0), (1, .istore_n 3, 0, 0, 0)] : List zz_i)),
  (2, 24, ([(2, .iload_n 3, 0, 0, 0), (3, .iload_n 2, 0, 0, 0), (4, .if_icmp .gt 26, 0, 0, 0), (7, .iload_n 3, 0, 0, 0), (8, .iload_n 1, 0, 0, 0), (9, .iload_n 2, 0, 0, 0), (10, .invokestatic 371, 290, 3, 0), (13, .iload_n 0, 0, 0, 0), (14, .iload_n 1, 0, 0, 0), (15, .iload_n 2, 0, 0, 0), (16, .invokestatic 371, 290, 3, 0), (19, .if_icmp .le 5, 0, 0, 0), (22, .iconst 0, 0, 0, 0), (23, .ireturn, 0, 0, 0)] : List zz_i)),
  (24, 30, ([(24, .iinc 3 1, 0, 0, 0), (27, .goto (-25), 0, 0, 0)] : List zz_i)),
  (30, 32, ([(30, .iconst 1, 0, 0, 0), (31, .ireturn, 0, 0, 0)] : List zz_i))])
/-- 292: X12_rests rests(I)I  -/
def zm_292 : zz_MI := (⟨"OneStageTwoPlaysModel", "rests", "(I)I"⟩, prog_14_method_94_code, 5, (some .int), [(0, 17, ([(0, .aload_n 0, 0, 0, 0), (1, .iconst 0, 0, 0, 0), (2, .putfield 103, 11, 7, 0), (5, .iload_n 1, 0, 0, 0), (6, .iconst 0, 0, 0, 0), (7, .bipush 20, 0, 0, 0), (9, .invokestatic 113, 201, 3, 0), (12, .ifCond .ne 5, 0, 0, 0), (15, .iconst (-1), 0, 0, 0), (16, .ireturn, 0, 0, 0)] : List zz_i)),
  (17, 26, ([(17, .iconst 0, 0, 0, 0), (18, .istore_n 2, 0, 0, 0), (19, .aload_n 0, 0, 0, 0), (20, .iconst 0, 0, 0, 0), (21, .putfield 107, 11, 6, 0), (24, .iconst 0, 0, 0, 0), (25, .istore_n 3, 0, 0, 0)] : List zz_i)),
  (26, 34, ([(26, .iload_n 3, 0, 0, 0), (27, .iload_n 1, 0, 0, 0), (28, .if_icmp .gt 67, 0, 0, 0), (31, .iconst 0, 0, 0, 0), (32, .istore 4, 0, 0, 0)] : List zz_i)),
  (34, 63, ([(34, .iload 4, 0, 0, 0), (36, .iload_n 1, 0, 0, 0), (37, .if_icmp .gt 52, 0, 0, 0), (40, .iload_n 3, 0, 0, 0), (41, .iload 4, 0, 0, 0), (43, .iload_n 1, 0, 0, 0), (44, .invokestatic 374, 291, 3, 0), (47, .ifCond .eq 36, 0, 0, 0), (50, .iload 4, 0, 0, 0), (52, .iload_n 3, 0, 0, 0), (53, .iload_n 1, 0, 0, 0), (54, .invokestatic 374, 291, 3, 0), (57, .ifCond .ne 6, 0, 0, 0), (60, .goto 23, 0, 0, 0)] : List zz_i)),
  (63, 80, ([(63, .iload_n 2, 0, 0, 0), (64, .ifCond .ne 16, 0, 0, 0), (67, .aload_n 0, 0, 0, 0), (68, .iload_n 3, 0, 0, 0), (69, .i2l, 0, 0, 0), (70, .invokevirtual 286, 204, 2, 11), (73, .aload_n 0, 0, 0, 0), (74, .iload 4, 0, 0, 0), (76, .i2l, 0, 0, 0), (77, .invokevirtual 286, 204, 2, 11)] : List zz_i)),
  (80, 83, ([(80, .iinc 2 1, 0, 0, 0)] : List zz_i)),
  (83, 89, ([(83, .iinc 4 1, 0, 0, 0), (86, .goto (-52), 0, 0, 0)] : List zz_i)),
  (89, 95, ([(89, .iinc 3 1, 0, 0, 0), (92, .goto (-66), 0, 0, 0)] : List zz_i)),
  (95, 97, ([(95, .iload_n 2, 0, 0, 0), (96, .ireturn, 0, 0, 0)] : List zz_i))])
/-- 293: X12_leadBy leadBy(II)I  -/
def zm_293 : zz_MI := (⟨"OneStageTwoPlaysModel", "leadBy", "(II)I"⟩, prog_14_method_95_code, 3, (some .int), [(0, 11, ([(0, .iload_n 2, 0, 0, 0), (1, .iload_n 1, 0, 0, 0), (2, .if_icmp .ne 9, 0, 0, 0), (5, .iload_n 2, 0, 0, 0), (6, .iconst 4, 0, 0, 0), (7, .isub, 0, 0, 0), (8, .goto 13, 0, 0, 0)] : List zz_i)),
  (11, 21, ([(11, .iload_n 2, 0, 0, 0), (12, .aload_n 0, 0, 0, 0), (13, .getfield 90, 11, 42, 0), (16, .iload_n 1, 0, 0, 0), (17, .iload_n 2, 0, 0, 0), (18, .isub, 0, 0, 0), (19, .iaload, 0, 0, 0), (20, .isub, 0, 0, 0)] : List zz_i)),
  (21, 22, ([(21, .ireturn, 0, 0, 0)] : List zz_i))])
/-- 294: X12_lamps lamps(I)I  -/
def zm_294 : zz_MI := (⟨"OneStageTwoPlaysModel", "lamps", "(I)I"⟩, prog_14_method_96_code, 5, (some .int), [(0, 17, ([(0, .aload_n 0, 0, 0, 0), (1, .iconst 0, 0, 0, 0), (2, .putfield 103, 11, 7, 0), (5, .iload_n 1, 0, 0, 0), (6, .iconst 1, 0, 0, 0), (7, .bipush 40, 0, 0, 0), (9, .invokestatic 113, 201, 3, 0), (12, .ifCond .ne 5, 0, 0, 0), (15, .iconst (-1), 0, 0, 0), (16, .ireturn, 0, 0, 0)] : List zz_i)),
  (17, 21, ([(17, .iconst 0, 0, 0, 0), (18, .istore_n 2, 0, 0, 0), (19, .iconst 1, 0, 0, 0), (20, .istore_n 3, 0, 0, 0)] : List zz_i)),
  (21, 38, ([(21, .iload_n 3, 0, 0, 0), (22, .iload_n 1, 0, 0, 0), (23, .if_icmp .gt 72, 0, 0, 0), (26, .aload_n 0, 0, 0, 0), (27, .getfield 90, 11, 42, 0), (30, .iload_n 3, 0, 0, 0), (31, .ldc_w 377, 4293967296, 0, 0), (34, .iastore, 0, 0, 0), (35, .iconst 1, 0, 0, 0), (36, .istore 4, 0, 0, 0)] : List zz_i)),
  (38, 67, ([(38, .iload 4, 0, 0, 0), (40, .iconst 3, 0, 0, 0), (41, .iload_n 3, 0, 0, 0), (42, .invokestatic 222, 310, 2, 0), (45, .if_icmp .gt 44, 0, 0, 0), (48, .aload_n 0, 0, 0, 0), (49, .iload_n 3, 0, 0, 0), (50, .iload 4, 0, 0, 0), (52, .invokevirtual 378, 293, 3, 11), (55, .aload_n 0, 0, 0, 0), (56, .getfield 90, 11, 42, 0), (59, .iload_n 3, 0, 0, 0), (60, .iaload, 0, 0, 0), (61, .if_icmp .gt 6, 0, 0, 0), (64, .goto 19, 0, 0, 0)] : List zz_i)),
  (67, 83, ([(67, .aload_n 0, 0, 0, 0), (68, .getfield 90, 11, 42, 0), (71, .iload_n 3, 0, 0, 0), (72, .aload_n 0, 0, 0, 0), (73, .iload_n 3, 0, 0, 0), (74, .iload 4, 0, 0, 0), (76, .invokevirtual 378, 293, 3, 11), (79, .iastore, 0, 0, 0), (80, .iload 4, 0, 0, 0), (82, .istore_n 2, 0, 0, 0)] : List zz_i)),
  (83, 89, ([(83, .iinc 4 1, 0, 0, 0), (86, .goto (-48), 0, 0, 0)] : List zz_i)),
  (89, 95, ([(89, .iinc 3 1, 0, 0, 0), (92, .goto (-71), 0, 0, 0)] : List zz_i)),
  (95, 116, ([(95, .aload_n 0, 0, 0, 0), (96, .iconst 0, 0, 0, 0), (97, .putfield 107, 11, 6, 0), (100, .aload_n 0, 0, 0, 0), (101, .iload_n 2, 0, 0, 0), (102, .i2l, 0, 0, 0), (103, .invokevirtual 286, 204, 2, 11), (106, .bipush 100, 0, 0, 0), (108, .aload_n 0, 0, 0, 0), (109, .getfield 90, 11, 42, 0), (112, .iload_n 1, 0, 0, 0), (113, .iaload, 0, 0, 0), (114, .iadd, 0, 0, 0), (115, .ireturn, 0, 0, 0)] : List zz_i))])
/-- 295: X12_bow bow(II)I  -/
def zm_295 : zz_MI := (⟨"OneStageTwoPlaysModel", "bow", "(II)I"⟩, prog_14_method_97_code, 3, (some .int), [(0, 23, ([(0, .aload_n 0, 0, 0, 0), (1, .iconst 0, 0, 0, 0), (2, .putfield 103, 11, 7, 0), (5, .iload_n 1, 0, 0, 0), (6, .iconst 0, 0, 0, 0), (7, .iconst 5, 0, 0, 0), (8, .invokestatic 113, 201, 3, 0), (11, .ifCond .eq 12, 0, 0, 0), (14, .iload_n 2, 0, 0, 0), (15, .iconst 0, 0, 0, 0), (16, .iconst 1, 0, 0, 0), (17, .invokestatic 113, 201, 3, 0), (20, .ifCond .ne 5, 0, 0, 0)] : List zz_i)),
  (23, 25, ([(23, .iconst (-1), 0, 0, 0), (24, .ireturn, 0, 0, 0)] : List zz_i)),
  (25, 63, ([(25, .aload_n 0, 0, 0, 0), (26, .dup, 0, 0, 0), (27, .getfield 381, 11, 43, 0), (30, .iconst 1, 0, 0, 0), (31, .iload_n 1, 0, 0, 0), (32, .ishl, 0, 0, 0), (33, .ior, 0, 0, 0), (34, .putfield 381, 11, 43, 0), (37, .aload_n 0, 0, 0, 0), (38, .aload_n 0, 0, 0, 0), (39, .getfield 384, 11, 44, 0), (42, .iconst 1, 0, 0, 0), (43, .iload_n 1, 0, 0, 0), (44, .ishl, 0, 0, 0), (45, .iconst (-1), 0, 0, 0), (46, .ixor, 0, 0, 0), (47, .iand, 0, 0, 0), (48, .iload_n 2, 0, 0, 0), (49, .iload_n 1, 0, 0, 0), (50, .ishl, 0, 0, 0), (51, .ior, 0, 0, 0), (52, .putfield 384, 11, 44, 0), (55, .aload_n 0, 0, 0, 0), (56, .getfield 381, 11, 43, 0), (59, .invokestatic 217, 308, 1, 0), (62, .ireturn, 0, 0, 0)] : List zz_i))])
/-- 296: X12_forget forget()I  -/
def zm_296 : zz_MI := (⟨"OneStageTwoPlaysModel", "forget", "()I"⟩, prog_14_method_98_code, 2, (some .int), [(0, 25, ([(0, .aload_n 0, 0, 0, 0), (1, .iconst 0, 0, 0, 0), (2, .putfield 103, 11, 7, 0), (5, .aload_n 0, 0, 0, 0), (6, .getfield 381, 11, 43, 0), (9, .invokestatic 217, 308, 1, 0), (12, .istore_n 1, 0, 0, 0), (13, .aload_n 0, 0, 0, 0), (14, .iconst 0, 0, 0, 0), (15, .putfield 381, 11, 43, 0), (18, .aload_n 0, 0, 0, 0), (19, .iconst 0, 0, 0, 0), (20, .putfield 384, 11, 44, 0), (23, .iload_n 1, 0, 0, 0), (24, .ireturn, 0, 0, 0)] : List zz_i))])
/-- 297: X12_fitting fitting()I  -/
def zm_297 : zz_MI := (⟨"OneStageTwoPlaysModel", "fitting", "()I"⟩, prog_14_method_99_code, 3, (some .int), [(0, 4, ([(0, .iconst 0, 0, 0, 0), (1, .istore_n 1, 0, 0, 0), (2, .iconst 0, 0, 0, 0), (3, .istore_n 2, 0, 0, 0)] : List zz_i)),
  (4, 38, ([(4, .iload_n 2, 0, 0, 0), (5, .aload_n 0, 0, 0, 0), (6, .getfield 110, 11, 1, 0), (9, .if_icmp .ge 38, 0, 0, 0), (12, .iload_n 1, 0, 0, 0), (13, .aload_n 0, 0, 0, 0), (14, .iload_n 2, 0, 0, 0), (15, .iconst 2, 0, 0, 0), (16, .invokevirtual 117, 207, 3, 11), (19, .aload_n 0, 0, 0, 0), (20, .getfield 384, 11, 44, 0), (23, .ixor, 0, 0, 0), (24, .aload_n 0, 0, 0, 0), (25, .getfield 381, 11, 43, 0), (28, .iand, 0, 0, 0), (29, .ifCond .ne 9, 0, 0, 0), (32, .iconst 1, 0, 0, 0), (33, .iload_n 2, 0, 0, 0), (34, .ishl, 0, 0, 0), (35, .goto 4, 0, 0, 0)] : List zz_i)),
  (38, 39, ([(38, .iconst 0, 0, 0, 0)] : List zz_i)),
  (39, 47, ([(39, .ior, 0, 0, 0), (40, .istore_n 1, 0, 0, 0), (41, .iinc 2 1, 0, 0, 0), (44, .goto (-40), 0, 0, 0)] : List zz_i)),
  (47, 49, ([(47, .iload_n 1, 0, 0, 0), (48, .ireturn, 0, 0, 0)] : List zz_i))])
/-- 298: X12_fits fits()I  -/
def zm_298 : zz_MI := (⟨"OneStageTwoPlaysModel", "fits", "()I"⟩, prog_14_method_100_code, 1, (some .int), [(0, 44, ([(0, .aload_n 0, 0, 0, 0), (1, .iconst 0, 0, 0, 0), (2, .putfield 103, 11, 7, 0), (5, .aload_n 0, 0, 0, 0), (6, .iconst 0, 0, 0, 0), (7, .putfield 107, 11, 6, 0), (10, .aload_n 0, 0, 0, 0), (11, .aload_n 0, 0, 0, 0), (12, .invokevirtual 387, 297, 1, 11), (15, .invokestatic 217, 308, 1, 0), (18, .i2l, 0, 0, 0), (19, .invokevirtual 286, 204, 2, 11), (22, .aload_n 0, 0, 0, 0), (23, .aload_n 0, 0, 0, 0), (24, .aload_n 0, 0, 0, 0), (25, .invokevirtual 387, 297, 1, 11), (28, .iconst 0, 0, 0, 0), (29, .invokevirtual 250, 233, 3, 11), (32, .invokestatic 217, 308, 1, 0), (35, .i2l, 0, 0, 0), (36, .invokevirtual 286, 204, 2, 11), (39, .aload_n 0, 0, 0, 0), (40, .invokevirtual 387, 297, 1, 11), (43, .ireturn, 0, 0, 0)] : List zz_i))])
/-- 299: X12_ask ask()I  -/
def zm_299 : zz_MI := (⟨"OneStageTwoPlaysModel", "ask", "()I"⟩, prog_14_method_101_code, 7, (some .int), [(0, 17, ([(0, .aload_n 0, 0, 0, 0), (1, .iconst 0, 0, 0, 0), (2, .putfield 103, 11, 7, 0), (5, .aload_n 0, 0, 0, 0), (6, .invokevirtual 387, 297, 1, 11), (9, .istore_n 1, 0, 0, 0), (10, .iload_n 1, 0, 0, 0), (11, .ifCond .ne 6, 0, 0, 0), (14, .bipush (-2), 0, 0, 0), (16, .ireturn, 0, 0, 0)] : List zz_i)),
  (17, 26, ([(17, .iconst (-1), 0, 0, 0), (18, .istore_n 2, 0, 0, 0), (19, .ldc_w 322, 1000000, 0, 0), (22, .istore_n 3, 0, 0, 0), (23, .iconst 0, 0, 0, 0), (24, .istore 4, 0, 0, 0)] : List zz_i)),
  (26, 70, ([(26, .iload 4, 0, 0, 0), (28, .bipush 6, 0, 0, 0), (30, .if_icmp .ge 52, 0, 0, 0), (33, .aload_n 0, 0, 0, 0), (34, .iload_n 1, 0, 0, 0), (35, .iconst 1, 0, 0, 0), (36, .iload 4, 0, 0, 0), (38, .ishl, 0, 0, 0), (39, .invokevirtual 351, 279, 3, 11), (42, .invokestatic 217, 308, 1, 0), (45, .istore 5, 0, 0, 0), (47, .iload 5, 0, 0, 0), (49, .iload_n 1, 0, 0, 0), (50, .invokestatic 217, 308, 1, 0), (53, .iload 5, 0, 0, 0), (55, .isub, 0, 0, 0), (56, .invokestatic 227, 309, 2, 0), (59, .istore 6, 0, 0, 0), (61, .iload 6, 0, 0, 0), (63, .iload_n 3, 0, 0, 0), (64, .if_icmp .lt 6, 0, 0, 0), (67, .goto 9, 0, 0, 0)] : List zz_i)),
  (70, 76, ([(70, .iload 4, 0, 0, 0), (72, .istore_n 2, 0, 0, 0), (73, .iload 6, 0, 0, 0), (75, .istore_n 3, 0, 0, 0)] : List zz_i)),
  (76, 82, ([(76, .iinc 4 1, 0, 0, 0), (79, .goto (-53), 0, 0, 0)] : List zz_i)),
  (82, 95, ([(82, .aload_n 0, 0, 0, 0), (83, .iconst 0, 0, 0, 0), (84, .putfield 107, 11, 6, 0), (87, .aload_n 0, 0, 0, 0), (88, .iload_n 3, 0, 0, 0), (89, .i2l, 0, 0, 0), (90, .invokevirtual 286, 204, 2, 11), (93, .iload_n 2, 0, 0, 0), (94, .ireturn, 0, 0, 0)] : List zz_i))])
/-- 300: X12_law law()I  -/
def zm_300 : zz_MI := (⟨"OneStageTwoPlaysModel", "law", "()I"⟩, prog_14_method_102_code, 6, (some .int), [(0, 26, ([(0, .aload_n 0, 0, 0, 0), (1, .iconst 0, 0, 0, 0), (2, .putfield 103, 11, 7, 0), (5, .aload_n 0, 0, 0, 0), (6, .getfield 121, 11, 4, 0), (9, .istore_n 1, 0, 0, 0), (10, .aload_n 0, 0, 0, 0), (11, .invokevirtual 208, 229, 1, 11), (14, .ifCond .ne 12, 0, 0, 0), (17, .sipush (-10000), 0, 0, 0), (20, .aload_n 0, 0, 0, 0), (21, .getfield 136, 11, 12, 0), (24, .isub, 0, 0, 0), (25, .ireturn, 0, 0, 0)] : List zz_i)),
  (26, 63, ([(26, .aload_n 0, 0, 0, 0), (27, .aload_n 0, 0, 0, 0), (28, .iconst 0, 0, 0, 0), (29, .invokevirtual 247, 232, 2, 11), (32, .invokevirtual 339, 269, 2, 11), (35, .istore_n 2, 0, 0, 0), (36, .aload_n 0, 0, 0, 0), (37, .getfield 27, 11, 14, 0), (40, .astore_n 3, 0, 0, 0), (41, .aload_n 0, 0, 0, 0), (42, .getfield 211, 11, 16, 0), (45, .istore 4, 0, 0, 0), (47, .aload_n 0, 0, 0, 0), (48, .aload_n 0, 0, 0, 0), (49, .getfield 30, 11, 15, 0), (52, .putfield 27, 11, 14, 0), (55, .aload_n 0, 0, 0, 0), (56, .iload_n 1, 0, 0, 0), (57, .putfield 211, 11, 16, 0), (60, .iconst 0, 0, 0, 0), (61, .istore 5, 0, 0, 0)] : List zz_i)),
  (63, 89, ([(63, .iload 5, 0, 0, 0), (65, .iload_n 1, 0, 0, 0), (66, .if_icmp .ge 23, 0, 0, 0), (69, .aload_n 0, 0, 0, 0), (70, .getfield 27, 11, 14, 0), (73, .iload 5, 0, 0, 0), (75, .aload_n 0, 0, 0, 0), (76, .getfield 16, 11, 3, 0), (79, .iload 5, 0, 0, 0), (81, .baload, 0, 0, 0), (82, .bastore, 0, 0, 0), (83, .iinc 5 1, 0, 0, 0), (86, .goto (-23), 0, 0, 0)] : List zz_i)),
  (89, 134, ([(89, .aload_n 0, 0, 0, 0), (90, .aload_n 0, 0, 0, 0), (91, .iconst 0, 0, 0, 0), (92, .invokevirtual 247, 232, 2, 11), (95, .invokevirtual 339, 269, 2, 11), (98, .istore 5, 0, 0, 0), (100, .aload_n 0, 0, 0, 0), (101, .aload_n 3, 0, 0, 0), (102, .putfield 27, 11, 14, 0), (105, .aload_n 0, 0, 0, 0), (106, .iload 4, 0, 0, 0), (108, .putfield 211, 11, 16, 0), (111, .aload_n 0, 0, 0, 0), (112, .iconst 0, 0, 0, 0), (113, .putfield 107, 11, 6, 0), (116, .aload_n 0, 0, 0, 0), (117, .iload 5, 0, 0, 0), (119, .i2l, 0, 0, 0), (120, .invokevirtual 286, 204, 2, 11), (123, .aload_n 0, 0, 0, 0), (124, .iload_n 2, 0, 0, 0), (125, .i2l, 0, 0, 0), (126, .invokevirtual 286, 204, 2, 11), (129, .iload 5, 0, 0, 0), (131, .iload_n 2, 0, 0, 0), (132, .isub, 0, 0, 0), (133, .ireturn, 0, 0, 0)] : List zz_i))])
/-- 301: X12_years years(II)I  -/
def zm_301 : zz_MI := (⟨"OneStageTwoPlaysModel", "years", "(II)I"⟩, prog_14_method_103_code, 9, (some .int), [(0, 17, ([(0, .aload_n 0, 0, 0, 0), (1, .iconst 0, 0, 0, 0), (2, .putfield 103, 11, 7, 0), (5, .iload_n 2, 0, 0, 0), (6, .iconst 1, 0, 0, 0), (7, .bipush 60, 0, 0, 0), (9, .invokestatic 113, 201, 3, 0), (12, .ifCond .ne 5, 0, 0, 0), (15, .iconst (-1), 0, 0, 0), (16, .ireturn, 0, 0, 0)] : List zz_i)),
  (17, 37, ([(17, .iload_n 1, 0, 0, 0), (18, .istore_n 3, 0, 0, 0), (19, .iconst 0, 0, 0, 0), (20, .istore 4, 0, 0, 0), (22, .aload_n 0, 0, 0, 0), (23, .getfield 9, 11, 0, 0), (26, .aload_n 0, 0, 0, 0), (27, .getfield 42, 11, 22, 0), (30, .iconst 0, 0, 0, 0), (31, .invokestatic 260, 240, 3, 0), (34, .iconst 0, 0, 0, 0), (35, .istore 5, 0, 0, 0)] : List zz_i)),
  (37, 81, ([(37, .iload 5, 0, 0, 0), (39, .iload_n 2, 0, 0, 0), (40, .if_icmp .ge 123, 0, 0, 0), (43, .iload_n 3, 0, 0, 0), (44, .ldc_w 390, 1103515245, 0, 0), (47, .imul, 0, 0, 0), (48, .sipush 12345, 0, 0, 0), (51, .iadd, 0, 0, 0), (52, .istore_n 3, 0, 0, 0), (53, .iload_n 3, 0, 0, 0), (54, .bipush 16, 0, 0, 0), (56, .iushr, 0, 0, 0), (57, .iconst 4, 0, 0, 0), (58, .irem, 0, 0, 0), (59, .istore 6, 0, 0, 0), (61, .iload 6, 0, 0, 0), (63, .iconst 3, 0, 0, 0), (64, .if_icmp .ne 17, 0, 0, 0), (67, .aload_n 0, 0, 0, 0), (68, .getfield 42, 11, 22, 0), (71, .bipush 12, 0, 0, 0), (73, .dup2, 0, 0, 0), (74, .iaload, 0, 0, 0), (75, .iconst 1, 0, 0, 0), (76, .iadd, 0, 0, 0), (77, .iastore, 0, 0, 0), (78, .goto 79, 0, 0, 0)] : List zz_i)),
  (81, 92, ([(81, .iload 6, 0, 0, 0), (83, .iconst 2, 0, 0, 0), (84, .if_icmp .ge 8, 0, 0, 0), (87, .iload 6, 0, 0, 0), (89, .goto 31, 0, 0, 0)] : List zz_i)),
  (92, 107, ([(92, .aload_n 0, 0, 0, 0), (93, .getfield 42, 11, 22, 0), (96, .bipush 13, 0, 0, 0), (98, .iaload, 0, 0, 0), (99, .iconst (-1), 0, 0, 0), (100, .if_icmp .ne 7, 0, 0, 0), (103, .iconst 0, 0, 0, 0), (104, .goto 16, 0, 0, 0)] : List zz_i)),
  (107, 120, ([(107, .iconst 1, 0, 0, 0), (108, .aload_n 0, 0, 0, 0), (109, .aload_n 0, 0, 0, 0), (110, .getfield 42, 11, 22, 0), (113, .bipush 13, 0, 0, 0), (115, .iaload, 0, 0, 0), (116, .invokevirtual 214, 208, 2, 11), (119, .isub, 0, 0, 0)] : List zz_i)),
  (120, 143, ([(120, .istore 7, 0, 0, 0), (122, .aload_n 0, 0, 0, 0), (123, .aload_n 0, 0, 0, 0), (124, .getfield 42, 11, 22, 0), (127, .iload 7, 0, 0, 0), (129, .invokevirtual 253, 236, 3, 11), (132, .istore 8, 0, 0, 0), (134, .iload 8, 0, 0, 0), (136, .iconst (-1), 0, 0, 0), (137, .if_icmp .ne 6, 0, 0, 0), (140, .goto 17, 0, 0, 0)] : List zz_i)),
  (143, 157, ([(143, .aload_n 0, 0, 0, 0), (144, .aload_n 0, 0, 0, 0), (145, .getfield 42, 11, 22, 0), (148, .iload 8, 0, 0, 0), (150, .invokevirtual 283, 246, 3, 11), (153, .pop, 0, 0, 0), (154, .iinc 4 1, 0, 0, 0)] : List zz_i)),
  (157, 163, ([(157, .iinc 5 1, 0, 0, 0), (160, .goto (-123), 0, 0, 0)] : List zz_i)),
  (163, 203, ([(163, .aload_n 0, 0, 0, 0), (164, .iconst 0, 0, 0, 0), (165, .putfield 107, 11, 6, 0), (168, .aload_n 0, 0, 0, 0), (169, .iload 4, 0, 0, 0), (171, .i2l, 0, 0, 0), (172, .invokevirtual 286, 204, 2, 11), (175, .aload_n 0, 0, 0, 0), (176, .aload_n 0, 0, 0, 0), (177, .getfield 42, 11, 22, 0), (180, .bipush 16, 0, 0, 0), (182, .iaload, 0, 0, 0), (183, .aload_n 0, 0, 0, 0), (184, .getfield 42, 11, 22, 0), (187, .bipush 17, 0, 0, 0), (189, .iaload, 0, 0, 0), (190, .iadd, 0, 0, 0), (191, .i2l, 0, 0, 0), (192, .invokevirtual 286, 204, 2, 11), (195, .aload_n 0, 0, 0, 0), (196, .getfield 42, 11, 22, 0), (199, .bipush 12, 0, 0, 0), (201, .iaload, 0, 0, 0), (202, .ireturn, 0, 0, 0)] : List zz_i))])
/-- 302: X12_keep keep(I)Z  -/
def zm_302 : zz_MI := (⟨"OneStageTwoPlaysModel", "keep", "(I)Z"⟩, prog_14_method_104_code, 2, (some .boolean), [(0, 16, ([(0, .aload_n 0, 0, 0, 0), (1, .iconst 0, 0, 0, 0), (2, .putfield 103, 11, 7, 0), (5, .iload_n 1, 0, 0, 0), (6, .iconst 0, 0, 0, 0), (7, .iconst 1, 0, 0, 0), (8, .invokestatic 113, 201, 3, 0), (11, .ifCond .ne 5, 0, 0, 0), (14, .iconst 0, 0, 0, 0), (15, .ireturn, 0, 0, 0)] : List zz_i)),
  (16, 50, ([(16, .aload_n 0, 0, 0, 0), (17, .getfield 96, 11, 47, 0), (20, .iload_n 1, 0, 0, 0), (21, .iconst 1, 0, 0, 0), (22, .bastore, 0, 0, 0), (23, .aload_n 0, 0, 0, 0), (24, .getfield 100, 11, 48, 0), (27, .iload_n 1, 0, 0, 0), (28, .aload_n 0, 0, 0, 0), (29, .getfield 182, 11, 45, 0), (32, .iastore, 0, 0, 0), (33, .aload_n 0, 0, 0, 0), (34, .getfield 9, 11, 0, 0), (37, .aload_n 0, 0, 0, 0), (38, .getfield 93, 11, 46, 0), (41, .bipush 18, 0, 0, 0), (43, .iload_n 1, 0, 0, 0), (44, .imul, 0, 0, 0), (45, .invokestatic 260, 240, 3, 0), (48, .iconst 1, 0, 0, 0), (49, .ireturn, 0, 0, 0)] : List zz_i))])
/-- 303: X12_again again(I)Z  -/
def zm_303 : zz_MI := (⟨"OneStageTwoPlaysModel", "again", "(I)Z"⟩, prog_14_method_105_code, 3, (some .boolean), [(0, 36, ([(0, .aload_n 0, 0, 0, 0), (1, .iconst 0, 0, 0, 0), (2, .putfield 103, 11, 7, 0), (5, .iload_n 1, 0, 0, 0), (6, .iconst 0, 0, 0, 0), (7, .iconst 1, 0, 0, 0), (8, .invokestatic 113, 201, 3, 0), (11, .ifCond .eq 25, 0, 0, 0), (14, .aload_n 0, 0, 0, 0), (15, .getfield 96, 11, 47, 0), (18, .iload_n 1, 0, 0, 0), (19, .baload, 0, 0, 0), (20, .ifCond .eq 16, 0, 0, 0), (23, .aload_n 0, 0, 0, 0), (24, .getfield 100, 11, 48, 0), (27, .iload_n 1, 0, 0, 0), (28, .iaload, 0, 0, 0), (29, .aload_n 0, 0, 0, 0), (30, .getfield 182, 11, 45, 0), (33, .if_icmp .eq 5, 0, 0, 0)] : List zz_i)),
  (36, 38, ([(36, .iconst 0, 0, 0, 0), (37, .ireturn, 0, 0, 0)] : List zz_i)),
  (38, 40, ([(38, .iconst 0, 0, 0, 0), (39, .istore_n 2, 0, 0, 0)] : List zz_i)),
  (40, 69, ([(40, .iload_n 2, 0, 0, 0), (41, .bipush 18, 0, 0, 0), (43, .if_icmp .ge 26, 0, 0, 0), (46, .aload_n 0, 0, 0, 0), (47, .getfield 9, 11, 0, 0), (50, .iload_n 2, 0, 0, 0), (51, .aload_n 0, 0, 0, 0), (52, .getfield 93, 11, 46, 0), (55, .bipush 18, 0, 0, 0), (57, .iload_n 1, 0, 0, 0), (58, .imul, 0, 0, 0), (59, .iload_n 2, 0, 0, 0), (60, .iadd, 0, 0, 0), (61, .iaload, 0, 0, 0), (62, .iastore, 0, 0, 0), (63, .iinc 2 1, 0, 0, 0), (66, .goto (-26), 0, 0, 0)] : List zz_i)),
  (69, 76, ([(69, .aload_n 0, 0, 0, 0), (70, .iconst 0, 0, 0, 0), (71, .putfield 179, 11, 20, 0), (74, .iconst 1, 0, 0, 0), (75, .ireturn, 0, 0, 0)] : List zz_i))])
/-- 304: X12_count count(I)I  -/
def zm_304 : zz_MI := (⟨"OneStageTwoPlaysModel", "count", "(I)I"⟩, prog_14_method_106_code, 2, (some .int), [(0, 64, ([(0, .aload_n 0, 0, 0, 0), (1, .iconst 0, 0, 0, 0), (2, .putfield 103, 11, 7, 0), (5, .iload_n 1, 0, 0, 0), (6, .tableswitch 123 0 10 #[58, 63, 71, 79, 79, 79, 87, 103, 108, 113, 118], 0, 0, 58)] : List zz_i)),
  (64, 69, ([(64, .aload_n 0, 0, 0, 0), (65, .getfield 110, 11, 1, 0), (68, .ireturn, 0, 0, 0)] : List zz_i)),
  (69, 77, ([(69, .aload_n 0, 0, 0, 0), (70, .getfield 9, 11, 0, 0), (73, .bipush 12, 0, 0, 0), (75, .iaload, 0, 0, 0), (76, .ireturn, 0, 0, 0)] : List zz_i)),
  (77, 85, ([(77, .aload_n 0, 0, 0, 0), (78, .getfield 9, 11, 0, 0), (81, .bipush 13, 0, 0, 0), (83, .iaload, 0, 0, 0), (84, .ireturn, 0, 0, 0)] : List zz_i)),
  (85, 93, ([(85, .aload_n 0, 0, 0, 0), (86, .iload_n 1, 0, 0, 0), (87, .iconst 3, 0, 0, 0), (88, .isub, 0, 0, 0), (89, .invokevirtual 247, 232, 2, 11), (92, .ireturn, 0, 0, 0)] : List zz_i)),
  (93, 109, ([(93, .aload_n 0, 0, 0, 0), (94, .getfield 9, 11, 0, 0), (97, .bipush 16, 0, 0, 0), (99, .iaload, 0, 0, 0), (100, .aload_n 0, 0, 0, 0), (101, .getfield 9, 11, 0, 0), (104, .bipush 17, 0, 0, 0), (106, .iaload, 0, 0, 0), (107, .iadd, 0, 0, 0), (108, .ireturn, 0, 0, 0)] : List zz_i)),
  (109, 114, ([(109, .aload_n 0, 0, 0, 0), (110, .getfield 381, 11, 43, 0), (113, .ireturn, 0, 0, 0)] : List zz_i)),
  (114, 119, ([(114, .aload_n 0, 0, 0, 0), (115, .getfield 179, 11, 20, 0), (118, .ireturn, 0, 0, 0)] : List zz_i)),
  (119, 124, ([(119, .aload_n 0, 0, 0, 0), (120, .getfield 107, 11, 6, 0), (123, .ireturn, 0, 0, 0)] : List zz_i)),
  (124, 129, ([(124, .aload_n 0, 0, 0, 0), (125, .getfield 121, 11, 4, 0), (128, .ireturn, 0, 0, 0)] : List zz_i)),
  (129, 132, ([(129, .bipush (-100), 0, 0, 0), (131, .ireturn, 0, 0, 0)] : List zz_i))])
/-- 305: X12_row row(I)J  -/
def zm_305 : zz_MI := (⟨"OneStageTwoPlaysModel", "row", "(I)J"⟩, prog_14_method_107_code, 2, (some .long), [(0, 28, ([(0, .aload_n 0, 0, 0, 0), (1, .iconst 0, 0, 0, 0), (2, .putfield 103, 11, 7, 0), (5, .iload_n 1, 0, 0, 0), (6, .iconst 0, 0, 0, 0), (7, .aload_n 0, 0, 0, 0), (8, .getfield 107, 11, 6, 0), (11, .iconst 1, 0, 0, 0), (12, .isub, 0, 0, 0), (13, .invokestatic 113, 201, 3, 0), (16, .ifCond .eq 12, 0, 0, 0), (19, .aload_n 0, 0, 0, 0), (20, .getfield 20, 11, 5, 0), (23, .iload_n 1, 0, 0, 0), (24, .laload, 0, 0, 0), (25, .goto 8, 0, 0, 0)] : List zz_i)),
  (28, 33, ([(28, .aload_n 0, 0, 0, 0), (29, .invokevirtual 241, 203, 1, 11), (32, .i2l, 0, 0, 0)] : List zz_i)),
  (33, 34, ([(33, .lreturn, 0, 0, 0)] : List zz_i))])
/-- 306: J6_numberOfLeadingZeros numberOfLeadingZeros(I)I  -/
def zm_306 : zz_MI := (⟨"java/lang/Integer", "numberOfLeadingZeros", "(I)I"⟩, prog_17_method_47_code, 2, (some .int), [(0, 13, ([(0, .iload_n 0, 0, 0, 0), (1, .ifCond .gt 14, 0, 0, 0), (4, .iload_n 0, 0, 0, 0), (5, .ifCond .ne 8, 0, 0, 0), (8, .bipush 32, 0, 0, 0), (10, .goto 4, 0, 0, 0)] : List zz_i)),
  (13, 14, ([(13, .iconst 0, 0, 0, 0)] : List zz_i)),
  (14, 15, ([(14, .ireturn, 0, 0, 0)] : List zz_i)),
  (15, 33, ([(15, .bipush 31, 0, 0, 0), (17, .istore_n 1, 0, 0, 0), (18, .iload_n 0, 0, 0, 0), (19, .ldc_w 264, 65536, 0, 0), (22, .if_icmp .lt 11, 0, 0, 0), (25, .iinc 1 (-16), 0, 0, 0), (28, .iload_n 0, 0, 0, 0), (29, .bipush 16, 0, 0, 0), (31, .iushr, 0, 0, 0), (32, .istore_n 0, 0, 0, 0)] : List zz_i)),
  (33, 48, ([(33, .iload_n 0, 0, 0, 0), (34, .sipush 256, 0, 0, 0), (37, .if_icmp .lt 11, 0, 0, 0), (40, .iinc 1 (-8), 0, 0, 0), (43, .iload_n 0, 0, 0, 0), (44, .bipush 8, 0, 0, 0), (46, .iushr, 0, 0, 0), (47, .istore_n 0, 0, 0, 0)] : List zz_i)),
  (48, 61, ([(48, .iload_n 0, 0, 0, 0), (49, .bipush 16, 0, 0, 0), (51, .if_icmp .lt 10, 0, 0, 0), (54, .iinc 1 (-4), 0, 0, 0), (57, .iload_n 0, 0, 0, 0), (58, .iconst 4, 0, 0, 0), (59, .iushr, 0, 0, 0), (60, .istore_n 0, 0, 0, 0)] : List zz_i)),
  (61, 73, ([(61, .iload_n 0, 0, 0, 0), (62, .iconst 4, 0, 0, 0), (63, .if_icmp .lt 10, 0, 0, 0), (66, .iinc 1 (-2), 0, 0, 0), (69, .iload_n 0, 0, 0, 0), (70, .iconst 2, 0, 0, 0), (71, .iushr, 0, 0, 0), (72, .istore_n 0, 0, 0, 0)] : List zz_i)),
  (73, 79, ([(73, .iload_n 1, 0, 0, 0), (74, .iload_n 0, 0, 0, 0), (75, .iconst 1, 0, 0, 0), (76, .iushr, 0, 0, 0), (77, .isub, 0, 0, 0), (78, .ireturn, 0, 0, 0)] : List zz_i))])
/-- 307: J6_numberOfTrailingZeros numberOfTrailingZeros(I)I  -/
def zm_307 : zz_MI := (⟨"java/lang/Integer", "numberOfTrailingZeros", "(I)I"⟩, prog_17_method_48_code, 2, (some .int), [(0, 17, ([(0, .iload_n 0, 0, 0, 0), (1, .iconst (-1), 0, 0, 0), (2, .ixor, 0, 0, 0), (3, .iload_n 0, 0, 0, 0), (4, .iconst 1, 0, 0, 0), (5, .isub, 0, 0, 0), (6, .iand, 0, 0, 0), (7, .istore_n 0, 0, 0, 0), (8, .iload_n 0, 0, 0, 0), (9, .ifCond .gt 8, 0, 0, 0), (12, .iload_n 0, 0, 0, 0), (13, .bipush 32, 0, 0, 0), (15, .iand, 0, 0, 0), (16, .ireturn, 0, 0, 0)] : List zz_i)),
  (17, 34, ([(17, .iconst 1, 0, 0, 0), (18, .istore_n 1, 0, 0, 0), (19, .iload_n 0, 0, 0, 0), (20, .ldc_w 264, 65536, 0, 0), (23, .if_icmp .le 11, 0, 0, 0), (26, .iinc 1 16, 0, 0, 0), (29, .iload_n 0, 0, 0, 0), (30, .bipush 16, 0, 0, 0), (32, .iushr, 0, 0, 0), (33, .istore_n 0, 0, 0, 0)] : List zz_i)),
  (34, 49, ([(34, .iload_n 0, 0, 0, 0), (35, .sipush 256, 0, 0, 0), (38, .if_icmp .le 11, 0, 0, 0), (41, .iinc 1 8, 0, 0, 0), (44, .iload_n 0, 0, 0, 0), (45, .bipush 8, 0, 0, 0), (47, .iushr, 0, 0, 0), (48, .istore_n 0, 0, 0, 0)] : List zz_i)),
  (49, 62, ([(49, .iload_n 0, 0, 0, 0), (50, .bipush 16, 0, 0, 0), (52, .if_icmp .le 10, 0, 0, 0), (55, .iinc 1 4, 0, 0, 0), (58, .iload_n 0, 0, 0, 0), (59, .iconst 4, 0, 0, 0), (60, .iushr, 0, 0, 0), (61, .istore_n 0, 0, 0, 0)] : List zz_i)),
  (62, 74, ([(62, .iload_n 0, 0, 0, 0), (63, .iconst 4, 0, 0, 0), (64, .if_icmp .le 10, 0, 0, 0), (67, .iinc 1 2, 0, 0, 0), (70, .iload_n 0, 0, 0, 0), (71, .iconst 2, 0, 0, 0), (72, .iushr, 0, 0, 0), (73, .istore_n 0, 0, 0, 0)] : List zz_i)),
  (74, 80, ([(74, .iload_n 1, 0, 0, 0), (75, .iload_n 0, 0, 0, 0), (76, .iconst 1, 0, 0, 0), (77, .iushr, 0, 0, 0), (78, .iadd, 0, 0, 0), (79, .ireturn, 0, 0, 0)] : List zz_i))])
/-- 308: J6_bitCount bitCount(I)I  -/
def zm_308 : zz_MI := (⟨"java/lang/Integer", "bitCount", "(I)I"⟩, prog_17_method_49_code, 1, (some .int), [(0, 53, ([(0, .iload_n 0, 0, 0, 0), (1, .iload_n 0, 0, 0, 0), (2, .iconst 1, 0, 0, 0), (3, .iushr, 0, 0, 0), (4, .ldc_w 265, 1431655765, 0, 0), (7, .iand, 0, 0, 0), (8, .isub, 0, 0, 0), (9, .istore_n 0, 0, 0, 0), (10, .iload_n 0, 0, 0, 0), (11, .ldc_w 266, 858993459, 0, 0), (14, .iand, 0, 0, 0), (15, .iload_n 0, 0, 0, 0), (16, .iconst 2, 0, 0, 0), (17, .iushr, 0, 0, 0), (18, .ldc_w 266, 858993459, 0, 0), (21, .iand, 0, 0, 0), (22, .iadd, 0, 0, 0), (23, .istore_n 0, 0, 0, 0), (24, .iload_n 0, 0, 0, 0), (25, .iload_n 0, 0, 0, 0), (26, .iconst 4, 0, 0, 0), (27, .iushr, 0, 0, 0), (28, .iadd, 0, 0, 0), (29, .ldc_w 267, 252645135, 0, 0), (32, .iand, 0, 0, 0), (33, .istore_n 0, 0, 0, 0), (34, .iload_n 0, 0, 0, 0), (35, .iload_n 0, 0, 0, 0), (36, .bipush 8, 0, 0, 0), (38, .iushr, 0, 0, 0), (39, .iadd, 0, 0, 0), (40, .istore_n 0, 0, 0, 0), (41, .iload_n 0, 0, 0, 0), (42, .iload_n 0, 0, 0, 0), (43, .bipush 16, 0, 0, 0), (45, .iushr, 0, 0, 0), (46, .iadd, 0, 0, 0), (47, .istore_n 0, 0, 0, 0), (48, .iload_n 0, 0, 0, 0), (49, .bipush 63, 0, 0, 0), (51, .iand, 0, 0, 0), (52, .ireturn, 0, 0, 0)] : List zz_i))])
/-- 309: J9_max max(II)I  -/
def zm_309 : zz_MI := (⟨"java/lang/Math", "max", "(II)I"⟩, prog_18_method_65_code, 2, (some .int), [(0, 9, ([(0, .iload_n 0, 0, 0, 0), (1, .iload_n 1, 0, 0, 0), (2, .if_icmp .lt 7, 0, 0, 0), (5, .iload_n 0, 0, 0, 0), (6, .goto 4, 0, 0, 0)] : List zz_i)),
  (9, 10, ([(9, .iload_n 1, 0, 0, 0)] : List zz_i)),
  (10, 11, ([(10, .ireturn, 0, 0, 0)] : List zz_i))])
/-- 310: J9_min min(II)I  -/
def zm_310 : zz_MI := (⟨"java/lang/Math", "min", "(II)I"⟩, prog_18_method_69_code, 2, (some .int), [(0, 9, ([(0, .iload_n 0, 0, 0, 0), (1, .iload_n 1, 0, 0, 0), (2, .if_icmp .gt 7, 0, 0, 0), (5, .iload_n 0, 0, 0, 0), (6, .goto 4, 0, 0, 0)] : List zz_i)),
  (9, 10, ([(9, .iload_n 1, 0, 0, 0)] : List zz_i)),
  (10, 11, ([(10, .ireturn, 0, 0, 0)] : List zz_i))])
/-- 311: X7_faultIn_X0 faultIn([CII)I on X0 -/
def zm_311 : zz_MI := (⟨"OneStageTwoPlays$Reader", "faultIn", "([CII)I"⟩, prog_9_method_5_code, 6, (some .int), [(0, 19, ([(0, .aload_n 0, 0, 0, 0), (1, .invokevirtual 9, 1, 1, 0), (4, .iload_n 2, 0, 0, 0), (5, .iload_n 3, 0, 0, 0), (6, .aload_n 1, 0, 0, 0), (7, .arraylength, 0, 0, 0), (8, .invokestatic 14, 310, 2, 0), (11, .invokestatic 14, 310, 2, 0), (14, .istore 4, 0, 0, 0), (16, .iconst 0, 0, 0, 0), (17, .istore 5, 0, 0, 0)] : List zz_i)),
  (19, 40, ([(19, .iload 5, 0, 0, 0), (21, .iload 4, 0, 0, 0), (23, .if_icmp .ge 23, 0, 0, 0), (26, .aload_n 0, 0, 0, 0), (27, .aload_n 1, 0, 0, 0), (28, .iload 5, 0, 0, 0), (30, .caload, 0, 0, 0), (31, .invokevirtual 20, 3, 2, 0), (34, .ifCond .ne 6, 0, 0, 0), (37, .iload 5, 0, 0, 0), (39, .ireturn, 0, 0, 0)] : List zz_i)),
  (40, 46, ([(40, .iinc 5 1, 0, 0, 0), (43, .goto (-24), 0, 0, 0)] : List zz_i)),
  (46, 53, ([(46, .iload_n 2, 0, 0, 0), (47, .iload_n 3, 0, 0, 0), (48, .if_icmp .le 5, 0, 0, 0), (51, .iload_n 3, 0, 0, 0), (52, .ireturn, 0, 0, 0)] : List zz_i)),
  (53, 64, ([(53, .aload_n 0, 0, 0, 0), (54, .invokevirtual 24, 2, 1, 0), (57, .ifCond .eq 7, 0, 0, 0), (60, .iconst (-1), 0, 0, 0), (61, .goto 5, 0, 0, 0)] : List zz_i)),
  (64, 66, ([(64, .iload 4, 0, 0, 0)] : List zz_i)),
  (66, 67, ([(66, .ireturn, 0, 0, 0)] : List zz_i))])
/-- 312: X7_faultIn_X3 faultIn([CII)I on X3 -/
def zm_312 : zz_MI := (⟨"OneStageTwoPlays$Reader", "faultIn", "([CII)I"⟩, prog_9_method_5_code, 6, (some .int), [(0, 19, ([(0, .aload_n 0, 0, 0, 0), (1, .invokevirtual 9, 34, 1, 3), (4, .iload_n 2, 0, 0, 0), (5, .iload_n 3, 0, 0, 0), (6, .aload_n 1, 0, 0, 0), (7, .arraylength, 0, 0, 0), (8, .invokestatic 14, 310, 2, 0), (11, .invokestatic 14, 310, 2, 0), (14, .istore 4, 0, 0, 0), (16, .iconst 0, 0, 0, 0), (17, .istore 5, 0, 0, 0)] : List zz_i)),
  (19, 40, ([(19, .iload 5, 0, 0, 0), (21, .iload 4, 0, 0, 0), (23, .if_icmp .ge 23, 0, 0, 0), (26, .aload_n 0, 0, 0, 0), (27, .aload_n 1, 0, 0, 0), (28, .iload 5, 0, 0, 0), (30, .caload, 0, 0, 0), (31, .invokevirtual 20, 36, 2, 3), (34, .ifCond .ne 6, 0, 0, 0), (37, .iload 5, 0, 0, 0), (39, .ireturn, 0, 0, 0)] : List zz_i)),
  (40, 46, ([(40, .iinc 5 1, 0, 0, 0), (43, .goto (-24), 0, 0, 0)] : List zz_i)),
  (46, 53, ([(46, .iload_n 2, 0, 0, 0), (47, .iload_n 3, 0, 0, 0), (48, .if_icmp .le 5, 0, 0, 0), (51, .iload_n 3, 0, 0, 0), (52, .ireturn, 0, 0, 0)] : List zz_i)),
  (53, 64, ([(53, .aload_n 0, 0, 0, 0), (54, .invokevirtual 24, 35, 1, 3), (57, .ifCond .eq 7, 0, 0, 0), (60, .iconst (-1), 0, 0, 0), (61, .goto 5, 0, 0, 0)] : List zz_i)),
  (64, 66, ([(64, .iload 4, 0, 0, 0)] : List zz_i)),
  (66, 67, ([(66, .ireturn, 0, 0, 0)] : List zz_i))])
/-- 313: X7_faultIn_X8 faultIn([CII)I on X8 -/
def zm_313 : zz_MI := (⟨"OneStageTwoPlays$Reader", "faultIn", "([CII)I"⟩, prog_9_method_5_code, 6, (some .int), [(0, 19, ([(0, .aload_n 0, 0, 0, 0), (1, .invokevirtual 9, 98, 1, 7), (4, .iload_n 2, 0, 0, 0), (5, .iload_n 3, 0, 0, 0), (6, .aload_n 1, 0, 0, 0), (7, .arraylength, 0, 0, 0), (8, .invokestatic 14, 310, 2, 0), (11, .invokestatic 14, 310, 2, 0), (14, .istore 4, 0, 0, 0), (16, .iconst 0, 0, 0, 0), (17, .istore 5, 0, 0, 0)] : List zz_i)),
  (19, 40, ([(19, .iload 5, 0, 0, 0), (21, .iload 4, 0, 0, 0), (23, .if_icmp .ge 23, 0, 0, 0), (26, .aload_n 0, 0, 0, 0), (27, .aload_n 1, 0, 0, 0), (28, .iload 5, 0, 0, 0), (30, .caload, 0, 0, 0), (31, .invokevirtual 20, 100, 2, 7), (34, .ifCond .ne 6, 0, 0, 0), (37, .iload 5, 0, 0, 0), (39, .ireturn, 0, 0, 0)] : List zz_i)),
  (40, 46, ([(40, .iinc 5 1, 0, 0, 0), (43, .goto (-24), 0, 0, 0)] : List zz_i)),
  (46, 53, ([(46, .iload_n 2, 0, 0, 0), (47, .iload_n 3, 0, 0, 0), (48, .if_icmp .le 5, 0, 0, 0), (51, .iload_n 3, 0, 0, 0), (52, .ireturn, 0, 0, 0)] : List zz_i)),
  (53, 64, ([(53, .aload_n 0, 0, 0, 0), (54, .invokevirtual 24, 99, 1, 7), (57, .ifCond .eq 7, 0, 0, 0), (60, .iconst (-1), 0, 0, 0), (61, .goto 5, 0, 0, 0)] : List zz_i)),
  (64, 66, ([(64, .iload 4, 0, 0, 0)] : List zz_i)),
  (66, 67, ([(66, .ireturn, 0, 0, 0)] : List zz_i))])
def zz_Ms : List zz_MI := [zm_0, zm_1, zm_2, zm_3, zm_4, zm_5, zm_6, zm_7, zm_8, zm_9, zm_10, zm_11, zm_12, zm_13, zm_14, zm_15, zm_16, zm_17, zm_18, zm_19, zm_20, zm_21, zm_22, zm_23, zm_24, zm_25, zm_26, zm_27, zm_28, zm_29, zm_30, zm_31, zm_32, zm_33, zm_34, zm_35, zm_36, zm_37, zm_38, zm_39, zm_40, zm_41, zm_42, zm_43, zm_44, zm_45, zm_46, zm_47, zm_48, zm_49, zm_50, zm_51, zm_52, zm_53, zm_54, zm_55, zm_56, zm_57, zm_58, zm_59, zm_60, zm_61, zm_62, zm_63, zm_64, zm_65, zm_66, zm_67, zm_68, zm_69, zm_70, zm_71, zm_72, zm_73, zm_74, zm_75, zm_76, zm_77, zm_78, zm_79, zm_80, zm_81, zm_82, zm_83, zm_84, zm_85, zm_86, zm_87, zm_88, zm_89, zm_90, zm_91, zm_92, zm_93, zm_94, zm_95, zm_96, zm_97, zm_98, zm_99, zm_100, zm_101, zm_102, zm_103, zm_104, zm_105, zm_106, zm_107, zm_108, zm_109, zm_110, zm_111, zm_112, zm_113, zm_114, zm_115, zm_116, zm_117, zm_118, zm_119, zm_120, zm_121, zm_122, zm_123, zm_124, zm_125, zm_126, zm_127, zm_128, zm_129, zm_130, zm_131, zm_132, zm_133, zm_134, zm_135, zm_136, zm_137, zm_138, zm_139, zm_140, zm_141, zm_142, zm_143, zm_144, zm_145, zm_146, zm_147, zm_148, zm_149, zm_150, zm_151, zm_152, zm_153, zm_154, zm_155, zm_156, zm_157, zm_158, zm_159, zm_160, zm_161, zm_162, zm_163, zm_164, zm_165, zm_166, zm_167, zm_168, zm_169, zm_170, zm_171, zm_172, zm_173, zm_174, zm_175, zm_176, zm_177, zm_178, zm_179, zm_180, zm_181, zm_182, zm_183, zm_184, zm_185, zm_186, zm_187, zm_188, zm_189, zm_190, zm_191, zm_192, zm_193, zm_194, zm_195, zm_196, zm_197, zm_198, zm_199, zm_200, zm_201, zm_202, zm_203, zm_204, zm_205, zm_206, zm_207, zm_208, zm_209, zm_210, zm_211, zm_212, zm_213, zm_214, zm_215, zm_216, zm_217, zm_218, zm_219, zm_220, zm_221, zm_222, zm_223, zm_224, zm_225, zm_226, zm_227, zm_228, zm_229, zm_230, zm_231, zm_232, zm_233, zm_234, zm_235, zm_236, zm_237, zm_238, zm_239, zm_240, zm_241, zm_242, zm_243, zm_244, zm_245, zm_246, zm_247, zm_248, zm_249, zm_250, zm_251, zm_252, zm_253, zm_254, zm_255, zm_256, zm_257, zm_258, zm_259, zm_260, zm_261, zm_262, zm_263, zm_264, zm_265, zm_266, zm_267, zm_268, zm_269, zm_270, zm_271, zm_272, zm_273, zm_274, zm_275, zm_276, zm_277, zm_278, zm_279, zm_280, zm_281, zm_282, zm_283, zm_284, zm_285, zm_286, zm_287, zm_288, zm_289, zm_290, zm_291, zm_292, zm_293, zm_294, zm_295, zm_296, zm_297, zm_298, zm_299, zm_300, zm_301, zm_302, zm_303, zm_304, zm_305, zm_306, zm_307, zm_308, zm_309, zm_310, zm_311, zm_312, zm_313]
def zz_M (j : Nat) : zz_MI := zz_Ms.getD j zm_0
