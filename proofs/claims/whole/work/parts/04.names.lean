/-- the words that stay good in a call -/
def lw_T : List Cond := lw_tbl.filter goodWord
theorem u_tm {w : Cond} {pl : Nat} (h : lw_g pl = some w) (hg : goodWord w = true := by rfl) : w ∈ lw_T := List.mem_filter.mpr ⟨lw_gm h, hg⟩
theorem in_r (ws : List Cond) (ps : List Nat) (hp : ws = ps.filterMap lw_g) : ∀ w ∈ ws, w ∈ lw_tbl := by
  intro w hw
  rw [hp] at hw
  obtain ⟨i, -, hi⟩ := List.mem_filterMap.mp hw
  exact lw_gm hi
def RX0 : String := "HeadCounts$Crossing"
def TX0 : u_T := fun k => match k with
  | 0 => ("HeadCounts$Crossing", "scene", "LHeadCounts$Scene;", true)
  | 1 => ("HeadCounts$Crossing", "goers", "I", false)
  | 2 => ("HeadCounts$Crossing", "minutes", "I", false)
  | 3 => ("HeadCounts$Crossing", "behind", "I", false)
  | 4 => ("HeadCounts$Crossing", "mover", "I", false)
  | 5 => ("HeadCounts$Crossing", "aim", "I", false)
  | 6 => ("HeadCounts$Crossing", "mostGoers", "I", false)
  | 7 => ("HeadCounts$Crossing", "isTheft", "Z", false)
  | 8 => ("HeadCounts$Crossing", "isEnded", "Z", false)
  | 9 => ("HeadCounts$Crossing", "sensedNow", "J", false)
  | 10 => ("HeadCounts$Crossing", "queued", "I", false)
  | _ => ("HeadCounts$Crossing", "goersBefore", "I", false)
def tyX0 : Nat → FieldType := fun k => match k with
  | 0 => .object "HeadCounts$Scene"
  | 1 => .int
  | 2 => .int
  | 3 => .int
  | 4 => .int
  | 5 => .int
  | 6 => .int
  | 7 => .boolean
  | 8 => .boolean
  | 9 => .long
  | 10 => .int
  | _ => .int
theorem nmX0 : ∀ a, a < 12 → ∀ b, b < 12 → a ≠ b → (TX0 a).2.1 ≠ (TX0 b).2.1 := by decide +kernel
theorem tyX0_ok : ∀ k, k < 12 → parseFieldDescriptor (TX0 k).2.2.1 = some (tyX0 k) := by decide +kernel
theorem inX0 : ∀ w ∈ u_ws RX0 TX0 12, w ∈ lw_T := fun w h => List.mem_filter.mpr ⟨in_r _ [863, 865, 867, 869, 871, 873, 875, 877, 879, 897, 899, 901] (by decide +kernel) w h, List.all_eq_true.mp (by decide +kernel : (u_ws RX0 TX0 12).all goodWord = true) w h⟩
def RX1 : String := "HeadCounts$House"
def TX1 : u_T := fun k => match k with
  | 0 => ("HeadCounts$House", "rooms", "I", false)
  | 1 => ("HeadCounts$House", "doors", "I", false)
  | 2 => ("HeadCounts$House", "heads", "I", false)
  | 3 => ("HeadCounts$House", "senses", "I", false)
  | 4 => ("HeadCounts$House", "linger", "I", false)
  | 5 => ("HeadCounts$House", "doorFrom", "[I", true)
  | 6 => ("HeadCounts$House", "doorTo", "[I", true)
  | 7 => ("HeadCounts$House", "home", "[I", true)
  | 8 => ("HeadCounts$House", "halves", "[I", true)
  | 9 => ("HeadCounts$House", "delay", "[I", true)
  | 10 => ("HeadCounts$House", "most", "[I", true)
  | 11 => ("HeadCounts$House", "senseRooms", "[I", true)
  | _ => ("HeadCounts$House", "countsAtFirst", "[I", true)
def tyX1 : Nat → FieldType := fun k => match k with
  | 0 => .int
  | 1 => .int
  | 2 => .int
  | 3 => .int
  | 4 => .int
  | 5 => .array .int
  | 6 => .array .int
  | 7 => .array .int
  | 8 => .array .int
  | 9 => .array .int
  | 10 => .array .int
  | 11 => .array .int
  | _ => .array .int
theorem nmX1 : ∀ a, a < 13 → ∀ b, b < 13 → a ≠ b → (TX1 a).2.1 ≠ (TX1 b).2.1 := by decide +kernel
theorem tyX1_ok : ∀ k, k < 13 → parseFieldDescriptor (TX1 k).2.2.1 = some (tyX1 k) := by decide +kernel
theorem inX1 : ∀ w ∈ u_ws RX1 TX1 13, w ∈ lw_T := fun w h => List.mem_filter.mpr ⟨in_r _ [471, 473, 475, 477, 479, 481, 483, 485, 487, 489, 491, 493, 495] (by decide +kernel) w h, List.all_eq_true.mp (by decide +kernel : (u_ws RX1 TX1 13).all goodWord = true) w h⟩
def RX2 : String := "HeadCounts$HouseReader"
def TX2 : u_T := fun k => match k with
  | 0 => ("HeadCounts$HouseReader", "in", "LHeadCounts$Reader;", true)
  | _ => ("HeadCounts$HouseReader", "hasLinger", "Z", false)
def tyX2 : Nat → FieldType := fun k => match k with
  | 0 => .object "HeadCounts$Reader"
  | _ => .boolean
theorem nmX2 : ∀ a, a < 2 → ∀ b, b < 2 → a ≠ b → (TX2 a).2.1 ≠ (TX2 b).2.1 := by decide +kernel
theorem tyX2_ok : ∀ k, k < 2 → parseFieldDescriptor (TX2 k).2.2.1 = some (tyX2 k) := by decide +kernel
theorem inX2 : ∀ w ∈ u_ws RX2 TX2 2, w ∈ lw_T := fun w h => List.mem_filter.mpr ⟨in_r _ [346, 348] (by decide +kernel) w h, List.all_eq_true.mp (by decide +kernel : (u_ws RX2 TX2 2).all goodWord = true) w h⟩
def RX3 : String := "HeadCounts$Reader"
def TX3 : u_T := fun k => match k with
  | 0 => ("HeadCounts$Reader", "text", "[B", true)
  | 1 => ("HeadCounts$Reader", "length", "I", false)
  | 2 => ("HeadCounts$Reader", "kinds", "[I", true)
  | 3 => ("HeadCounts$Reader", "numbers", "[I", true)
  | 4 => ("HeadCounts$Reader", "places", "[I", true)
  | 5 => ("HeadCounts$Reader", "pieces", "I", false)
  | 6 => ("HeadCounts$Reader", "current", "I", false)
  | _ => ("HeadCounts$Reader", "fault", "I", false)
def tyX3 : Nat → FieldType := fun k => match k with
  | 0 => .array .byte
  | 1 => .int
  | 2 => .array .int
  | 3 => .array .int
  | 4 => .array .int
  | 5 => .int
  | 6 => .int
  | _ => .int
theorem nmX3 : ∀ a, a < 8 → ∀ b, b < 8 → a ≠ b → (TX3 a).2.1 ≠ (TX3 b).2.1 := by decide +kernel
theorem tyX3_ok : ∀ k, k < 8 → parseFieldDescriptor (TX3 k).2.2.1 = some (tyX3 k) := by decide +kernel
theorem inX3 : ∀ w ∈ u_ws RX3 TX3 8, w ∈ lw_T := fun w h => List.mem_filter.mpr ⟨in_r _ [303, 321, 323, 325, 327, 329, 331, 333] (by decide +kernel) w h, List.all_eq_true.mp (by decide +kernel : (u_ws RX3 TX3 8).all goodWord = true) w h⟩
def RX4 : String := "HeadCounts$Rule"
def TX4 : u_T := fun k => match k with
  | 0 => ("HeadCounts$Rule", "code", "[I", true)
  | 1 => ("HeadCounts$Rule", "sumEnd", "[I", true)
  | 2 => ("HeadCounts$Rule", "testEnd", "[I", true)
  | _ => ("HeadCounts$Rule", "stack", "[J", true)
def tyX4 : Nat → FieldType := fun k => match k with
  | 0 => .array .int
  | 1 => .array .int
  | 2 => .array .int
  | _ => .array .long
theorem nmX4 : ∀ a, a < 4 → ∀ b, b < 4 → a ≠ b → (TX4 a).2.1 ≠ (TX4 b).2.1 := by decide +kernel
theorem tyX4_ok : ∀ k, k < 4 → parseFieldDescriptor (TX4 k).2.2.1 = some (tyX4 k) := by decide +kernel
theorem inX4 : ∀ w ∈ u_ws RX4 TX4 4, w ∈ lw_T := fun w h => List.mem_filter.mpr ⟨in_r _ [1366, 1368, 1370, 1372] (by decide +kernel) w h, List.all_eq_true.mp (by decide +kernel : (u_ws RX4 TX4 4).all goodWord = true) w h⟩
def RX5 : String := "HeadCounts$RuleReader"
def TX5 : u_T := fun k => match k with
  | 0 => ("HeadCounts$RuleReader", "in", "LHeadCounts$Reader;", true)
  | 1 => ("HeadCounts$RuleReader", "code", "[I", true)
  | 2 => ("HeadCounts$RuleReader", "size", "I", false)
  | 3 => ("HeadCounts$RuleReader", "values", "I", false)
  | 4 => ("HeadCounts$RuleReader", "sumEnd", "[I", true)
  | _ => ("HeadCounts$RuleReader", "testEnd", "[I", true)
def tyX5 : Nat → FieldType := fun k => match k with
  | 0 => .object "HeadCounts$Reader"
  | 1 => .array .int
  | 2 => .int
  | 3 => .int
  | 4 => .array .int
  | _ => .array .int
theorem nmX5 : ∀ a, a < 6 → ∀ b, b < 6 → a ≠ b → (TX5 a).2.1 ≠ (TX5 b).2.1 := by decide +kernel
theorem tyX5_ok : ∀ k, k < 6 → parseFieldDescriptor (TX5 k).2.2.1 = some (tyX5 k) := by decide +kernel
theorem inX5 : ∀ w ∈ u_ws RX5 TX5 6, w ∈ lw_T := fun w h => List.mem_filter.mpr ⟨in_r _ [363, 365, 367, 385, 387, 389] (by decide +kernel) w h, List.all_eq_true.mp (by decide +kernel : (u_ws RX5 TX5 6).all goodWord = true) w h⟩
def RX6 : String := "HeadCounts$Scene"
def TX6 : u_T := fun k => match k with
  | 0 => ("HeadCounts$Scene", "rooms", "I", false)
  | 1 => ("HeadCounts$Scene", "heads", "I", false)
  | 2 => ("HeadCounts$Scene", "size", "I", false)
  | 3 => ("HeadCounts$Scene", "start", "I", false)
  | 4 => ("HeadCounts$Scene", "number", "[I", true)
  | 5 => ("HeadCounts$Scene", "halves", "[I", true)
  | 6 => ("HeadCounts$Scene", "power", "[I", true)
  | 7 => ("HeadCounts$Scene", "most", "[I", true)
  | 8 => ("HeadCounts$Scene", "links", "[I", true)
  | 9 => ("HeadCounts$Scene", "weight", "[J", true)
  | 10 => ("HeadCounts$Scene", "at", "[I", true)
  | 11 => ("HeadCounts$Scene", "counts", "[I", true)
  | 12 => ("HeadCounts$Scene", "marks", "[J", false)
  | 13 => ("HeadCounts$Scene", "nextMarks", "[J", false)
  | 14 => ("HeadCounts$Scene", "queue", "[I", false)
  | _ => ("HeadCounts$Scene", "nextQueue", "[I", false)
def tyX6 : Nat → FieldType := fun k => match k with
  | 0 => .int
  | 1 => .int
  | 2 => .int
  | 3 => .int
  | 4 => .array .int
  | 5 => .array .int
  | 6 => .array .int
  | 7 => .array .int
  | 8 => .array .int
  | 9 => .array .long
  | 10 => .array .int
  | 11 => .array .int
  | 12 => .array .long
  | 13 => .array .long
  | 14 => .array .int
  | _ => .array .int
theorem nmX6 : ∀ a, a < 16 → ∀ b, b < 16 → a ≠ b → (TX6 a).2.1 ≠ (TX6 b).2.1 := by decide +kernel
theorem tyX6_ok : ∀ k, k < 16 → parseFieldDescriptor (TX6 k).2.2.1 = some (tyX6 k) := by decide +kernel
theorem inX6 : ∀ w ∈ u_ws RX6 TX6 16, w ∈ lw_T := fun w h => List.mem_filter.mpr ⟨in_r _ [722, 724, 726, 728, 730, 732, 734, 736, 738, 740, 742, 744, 746, 748, 750, 768] (by decide +kernel) w h, List.all_eq_true.mp (by decide +kernel : (u_ws RX6 TX6 16).all goodWord = true) w h⟩
def RX7 : String := "HeadCounts$Search"
def TX7 : u_T := fun k => match k with
  | 0 => ("HeadCounts$Search", "scene", "LHeadCounts$Scene;", true)
  | 1 => ("HeadCounts$Search", "isSummed", "Z", false)
  | 2 => ("HeadCounts$Search", "total", "J", false)
  | 3 => ("HeadCounts$Search", "situations", "I", false)
  | 4 => ("HeadCounts$Search", "partingRoom", "I", false)
  | 5 => ("HeadCounts$Search", "mostAlike", "I", false)
  | 6 => ("HeadCounts$Search", "ends", "[I", true)
  | 7 => ("HeadCounts$Search", "groups", "[I", true)
  | 8 => ("HeadCounts$Search", "minutes", "I", false)
  | 9 => ("HeadCounts$Search", "firstHead", "I", false)
  | 10 => ("HeadCounts$Search", "firstRoom", "I", false)
  | 11 => ("HeadCounts$Search", "soughtRoom", "I", false)
  | _ => ("HeadCounts$Search", "soughtHalves", "I", false)
def tyX7 : Nat → FieldType := fun k => match k with
  | 0 => .object "HeadCounts$Scene"
  | 1 => .boolean
  | 2 => .long
  | 3 => .int
  | 4 => .int
  | 5 => .int
  | 6 => .array .int
  | 7 => .array .int
  | 8 => .int
  | 9 => .int
  | 10 => .int
  | 11 => .int
  | _ => .int
theorem nmX7 : ∀ a, a < 13 → ∀ b, b < 13 → a ≠ b → (TX7 a).2.1 ≠ (TX7 b).2.1 := by decide +kernel
theorem tyX7_ok : ∀ k, k < 13 → parseFieldDescriptor (TX7 k).2.2.1 = some (tyX7 k) := by decide +kernel
theorem inX7 : ∀ w ∈ u_ws RX7 TX7 13, w ∈ lw_T := fun w h => List.mem_filter.mpr ⟨in_r _ [800, 802, 804, 806, 808, 810, 812, 814, 832, 834, 836, 838, 840] (by decide +kernel) w h, List.all_eq_true.mp (by decide +kernel : (u_ws RX7 TX7 13).all goodWord = true) w h⟩
def RX8 : String := "HeadCounts$State"
def TX8 : u_T := fun k => match k with
  | 0 => ("HeadCounts$State", "house", "LHeadCounts$House;", false)
  | 1 => ("HeadCounts$State", "minute", "I", false)
  | 2 => ("HeadCounts$State", "openDoors", "I", false)
  | 3 => ("HeadCounts$State", "echoes", "I", false)
  | 4 => ("HeadCounts$State", "at", "[I", true)
  | 5 => ("HeadCounts$State", "came", "[I", true)
  | 6 => ("HeadCounts$State", "gone", "[I", true)
  | 7 => ("HeadCounts$State", "until", "[I", true)
  | 8 => ("HeadCounts$State", "echoAt", "[I", true)
  | 9 => ("HeadCounts$State", "echoHalves", "[I", true)
  | 10 => ("HeadCounts$State", "echoUntil", "[I", true)
  | 11 => ("HeadCounts$State", "counts", "[I", true)
  | 12 => ("HeadCounts$State", "links", "[I", true)
  | _ => ("HeadCounts$State", "past", "[I", true)
def tyX8 : Nat → FieldType := fun k => match k with
  | 0 => .object "HeadCounts$House"
  | 1 => .int
  | 2 => .int
  | 3 => .int
  | 4 => .array .int
  | 5 => .array .int
  | 6 => .array .int
  | 7 => .array .int
  | 8 => .array .int
  | 9 => .array .int
  | 10 => .array .int
  | 11 => .array .int
  | 12 => .array .int
  | _ => .array .int
theorem nmX8 : ∀ a, a < 14 → ∀ b, b < 14 → a ≠ b → (TX8 a).2.1 ≠ (TX8 b).2.1 := by decide +kernel
theorem tyX8_ok : ∀ k, k < 14 → parseFieldDescriptor (TX8 k).2.2.1 = some (tyX8 k) := by decide +kernel
theorem inX8 : ∀ w ∈ u_ws RX8 TX8 14, w ∈ lw_T := fun w h => List.mem_filter.mpr ⟨in_r _ [552, 554, 556, 558, 576, 578, 580, 582, 584, 586, 588, 590, 592, 594] (by decide +kernel) w h, List.all_eq_true.mp (by decide +kernel : (u_ws RX8 TX8 14).all goodWord = true) w h⟩
def RX9 : String := "HeadCounts$Watching"
def TX9 : u_T := fun k => match k with
  | 0 => ("HeadCounts$Watching", "scene", "LHeadCounts$Scene;", true)
  | 1 => ("HeadCounts$Watching", "goings", "I", false)
  | 2 => ("HeadCounts$Watching", "from", "[I", true)
  | 3 => ("HeadCounts$Watching", "to", "[I", true)
  | 4 => ("HeadCounts$Watching", "halves", "[I", true)
  | 5 => ("HeadCounts$Watching", "rows", "[J", false)
  | 6 => ("HeadCounts$Watching", "nextRows", "[J", false)
  | 7 => ("HeadCounts$Watching", "reach", "[I", true)
  | _ => ("HeadCounts$Watching", "alike", "[I", true)
def tyX9 : Nat → FieldType := fun k => match k with
  | 0 => .object "HeadCounts$Scene"
  | 1 => .int
  | 2 => .array .int
  | 3 => .array .int
  | 4 => .array .int
  | 5 => .array .long
  | 6 => .array .long
  | 7 => .array .int
  | _ => .array .int
theorem nmX9 : ∀ a, a < 9 → ∀ b, b < 9 → a ≠ b → (TX9 a).2.1 ≠ (TX9 b).2.1 := by decide +kernel
theorem tyX9_ok : ∀ k, k < 9 → parseFieldDescriptor (TX9 k).2.2.1 = some (tyX9 k) := by decide +kernel
theorem inX9 : ∀ w ∈ u_ws RX9 TX9 9, w ∈ lw_T := fun w h => List.mem_filter.mpr ⟨in_r _ [919, 921, 923, 925, 927, 929, 931, 933, 935] (by decide +kernel) w h, List.all_eq_true.mp (by decide +kernel : (u_ws RX9 TX9 9).all goodWord = true) w h⟩
def RX10 : String := "HeadCounts$World"
def TX10 : u_T := fun k => match k with
  | 0 => ("HeadCounts$World", "now", "LHeadCounts$State;", true)
  | 1 => ("HeadCounts$World", "undos", "[LHeadCounts$State;", true)
  | 2 => ("HeadCounts$World", "oldestUndo", "I", false)
  | 3 => ("HeadCounts$World", "undoCount", "I", false)
  | 4 => ("HeadCounts$World", "seed", "I", false)
  | 5 => ("HeadCounts$World", "told", "I", false)
  | 6 => ("HeadCounts$World", "toldMinutes", "[I", true)
  | 7 => ("HeadCounts$World", "toldSense", "[I", true)
  | _ => ("HeadCounts$World", "toldHalves", "[I", true)
def tyX10 : Nat → FieldType := fun k => match k with
  | 0 => .object "HeadCounts$State"
  | 1 => .array (.object "HeadCounts$State")
  | 2 => .int
  | 3 => .int
  | 4 => .int
  | 5 => .int
  | 6 => .array .int
  | 7 => .array .int
  | _ => .array .int
theorem nmX10 : ∀ a, a < 9 → ∀ b, b < 9 → a ≠ b → (TX10 a).2.1 ≠ (TX10 b).2.1 := by decide +kernel
theorem tyX10_ok : ∀ k, k < 9 → parseFieldDescriptor (TX10 k).2.2.1 = some (tyX10 k) := by decide +kernel
theorem inX10 : ∀ w ∈ u_ws RX10 TX10 9, w ∈ lw_T := fun w h => List.mem_filter.mpr ⟨in_r _ [615, 617, 619, 621, 623, 641, 643, 645, 647] (by decide +kernel) w h, List.all_eq_true.mp (by decide +kernel : (u_ws RX10 TX10 9).all goodWord = true) w h⟩
def RX11 : String := "HeadCounts"
def TX11 : u_T := fun k => match k with
  | 0 => ("HeadCounts", "tape", "[B", true)
  | 1 => ("HeadCounts", "tapeLength", "I", false)
  | 2 => ("HeadCounts", "reader", "LHeadCounts$Reader;", true)
  | 3 => ("HeadCounts", "houseReader", "LHeadCounts$HouseReader;", true)
  | 4 => ("HeadCounts", "ruleReader", "LHeadCounts$RuleReader;", true)
  | 5 => ("HeadCounts", "rules", "[LHeadCounts$Rule;", true)
  | 6 => ("HeadCounts", "ruleCount", "I", false)
  | 7 => ("HeadCounts", "world", "LHeadCounts$World;", true)
  | 8 => ("HeadCounts", "images", "[LHeadCounts$World;", true)
  | 9 => ("HeadCounts", "trial", "LHeadCounts$State;", true)
  | 10 => ("HeadCounts", "draw", "J", false)
  | 11 => ("HeadCounts", "scene", "LHeadCounts$Scene;", true)
  | 12 => ("HeadCounts", "search", "LHeadCounts$Search;", true)
  | 13 => ("HeadCounts", "crossing", "LHeadCounts$Crossing;", true)
  | _ => ("HeadCounts", "watching", "LHeadCounts$Watching;", true)
def tyX11 : Nat → FieldType := fun k => match k with
  | 0 => .array .byte
  | 1 => .int
  | 2 => .object "HeadCounts$Reader"
  | 3 => .object "HeadCounts$HouseReader"
  | 4 => .object "HeadCounts$RuleReader"
  | 5 => .array (.object "HeadCounts$Rule")
  | 6 => .int
  | 7 => .object "HeadCounts$World"
  | 8 => .array (.object "HeadCounts$World")
  | 9 => .object "HeadCounts$State"
  | 10 => .long
  | 11 => .object "HeadCounts$Scene"
  | 12 => .object "HeadCounts$Search"
  | 13 => .object "HeadCounts$Crossing"
  | _ => .object "HeadCounts$Watching"
theorem nmX11 : ∀ a, a < 15 → ∀ b, b < 15 → a ≠ b → (TX11 a).2.1 ≠ (TX11 b).2.1 := by decide +kernel
theorem tyX11_ok : ∀ k, k < 15 → parseFieldDescriptor (TX11 k).2.2.1 = some (tyX11 k) := by decide +kernel
theorem inX11 : ∀ w ∈ u_ws RX11 TX11 15, w ∈ lw_T := fun w h => List.mem_filter.mpr ⟨in_r _ [969, 971, 973, 975, 977, 979, 981, 983, 985, 987, 989, 991, 993, 995, 997] (by decide +kernel) w h, List.all_eq_true.mp (by decide +kernel : (u_ws RX11 TX11 15).all goodWord = true) w h⟩
def RX12 : String := "HeadCountsModel"
def TX12 : u_T := fun k => match k with
  | 0 => ("HeadCountsModel", "tape", "[B", true)
  | 1 => ("HeadCountsModel", "taped", "I", false)
  | 2 => ("HeadCountsModel", "rules", "I", false)
  | 3 => ("HeadCountsModel", "sign", "[I", true)
  | 4 => ("HeadCountsModel", "length", "[I", true)
  | 5 => ("HeadCountsModel", "clause", "[I", true)
  | 6 => ("HeadCountsModel", "clauses", "[I", true)
  | 7 => ("HeadCountsModel", "read", "[I", true)
  | 8 => ("HeadCountsModel", "next", "I", false)
  | 9 => ("HeadCountsModel", "wrong", "I", false)
  | 10 => ("HeadCountsModel", "number", "I", false)
  | 11 => ("HeadCountsModel", "text", "I", false)
  | 12 => ("HeadCountsModel", "made", "I", false)
  | 13 => ("HeadCountsModel", "deep", "I", false)
  | 14 => ("HeadCountsModel", "lines", "I", false)
  | 15 => ("HeadCountsModel", "open", "[I", true)
  | 16 => ("HeadCountsModel", "opened", "I", false)
  | 17 => ("HeadCountsModel", "stack", "[J", true)
  | 18 => ("HeadCountsModel", "top", "I", false)
  | 19 => ("HeadCountsModel", "word", "[J", true)
  | 20 => ("HeadCountsModel", "said", "[I", true)
  | 21 => ("HeadCountsModel", "x", "I", false)
  | 22 => ("HeadCountsModel", "wasSaid", "[I", true)
  | 23 => ("HeadCountsModel", "undone", "I", false)
  | 24 => ("HeadCountsModel", "place", "[I", true)
  | 25 => ("HeadCountsModel", "power", "[I", true)
  | 26 => ("HeadCountsModel", "ways", "[J", true)
  | 27 => ("HeadCountsModel", "then", "[J", true)
  | 28 => ("HeadCountsModel", "alike", "[I", true)
  | 29 => ("HeadCountsModel", "goer", "[I", true)
  | 30 => ("HeadCountsModel", "goingTo", "[I", true)
  | 31 => ("HeadCountsModel", "goings", "I", false)
  | 32 => ("HeadCountsModel", "placeFrom", "[I", true)
  | 33 => ("HeadCountsModel", "sensed", "[I", true)
  | 34 => ("HeadCountsModel", "came", "[I", true)
  | 35 => ("HeadCountsModel", "minutesTo", "[I", true)
  | 36 => ("HeadCountsModel", "goingsTo", "[I", true)
  | 37 => ("HeadCountsModel", "isThere", "[Z", true)
  | 38 => ("HeadCountsModel", "leads", "[I", true)
  | 39 => ("HeadCountsModel", "leadMany", "I", false)
  | 40 => ("HeadCountsModel", "far", "[I", true)
  | 41 => ("HeadCountsModel", "begun", "[I", true)
  | 42 => ("HeadCountsModel", "queue", "[I", true)
  | 43 => ("HeadCountsModel", "rowsBy", "[J", true)
  | 44 => ("HeadCountsModel", "rowsThen", "[J", true)
  | 45 => ("HeadCountsModel", "kept", "[I", true)
  | 46 => ("HeadCountsModel", "drawX", "J", false)
  | 47 => ("HeadCountsModel", "images", "[I", true)
  | 48 => ("HeadCountsModel", "imageMinutes", "[I", true)
  | 49 => ("HeadCountsModel", "imageUndone", "[I", true)
  | 50 => ("HeadCountsModel", "imageX", "[I", true)
  | _ => ("HeadCountsModel", "isMade", "[Z", true)
def tyX12 : Nat → FieldType := fun k => match k with
  | 0 => .array .byte
  | 1 => .int
  | 2 => .int
  | 3 => .array .int
  | 4 => .array .int
  | 5 => .array .int
  | 6 => .array .int
  | 7 => .array .int
  | 8 => .int
  | 9 => .int
  | 10 => .int
  | 11 => .int
  | 12 => .int
  | 13 => .int
  | 14 => .int
  | 15 => .array .int
  | 16 => .int
  | 17 => .array .long
  | 18 => .int
  | 19 => .array .long
  | 20 => .array .int
  | 21 => .int
  | 22 => .array .int
  | 23 => .int
  | 24 => .array .int
  | 25 => .array .int
  | 26 => .array .long
  | 27 => .array .long
  | 28 => .array .int
  | 29 => .array .int
  | 30 => .array .int
  | 31 => .int
  | 32 => .array .int
  | 33 => .array .int
  | 34 => .array .int
  | 35 => .array .int
  | 36 => .array .int
  | 37 => .array .boolean
  | 38 => .array .int
  | 39 => .int
  | 40 => .array .int
  | 41 => .array .int
  | 42 => .array .int
  | 43 => .array .long
  | 44 => .array .long
  | 45 => .array .int
  | 46 => .long
  | 47 => .array .int
  | 48 => .array .int
  | 49 => .array .int
  | 50 => .array .int
  | _ => .array .boolean
theorem nmX12 : ∀ a, a < 52 → ∀ b, b < 52 → a ≠ b → (TX12 a).2.1 ≠ (TX12 b).2.1 := by decide +kernel
theorem tyX12_ok : ∀ k, k < 52 → parseFieldDescriptor (TX12 k).2.2.1 = some (tyX12 k) := by decide +kernel
theorem inX12 : ∀ w ∈ u_ws RX12 TX12 52, w ∈ lw_T := fun w h => List.mem_filter.mpr ⟨in_r _ [2145, 2147, 2149, 2151, 2153, 2155, 2157, 2159, 2177, 2179, 2181, 2183, 2185, 2187, 2189, 2191, 2193, 2195, 2197, 2199, 2201, 2203, 2205, 2207, 2209, 2211, 2213, 2215, 2217, 2219, 2221, 2223, 2241, 2243, 2245, 2247, 2249, 2251, 2253, 2255, 2257, 2259, 2261, 2263, 2265, 2267, 2269, 2271, 2273, 2275, 2277, 2279] (by decide +kernel) w h, List.all_eq_true.mp (by decide +kernel : (u_ws RX12 TX12 52).all goodWord = true) w h⟩
abbrev vwCl : List vw_C := [(RX0, TX0, 12), (RX1, TX1, 13), (RX2, TX2, 2), (RX3, TX3, 8), (RX4, TX4, 4), (RX5, TX5, 6), (RX6, TX6, 16), (RX7, TX7, 13), (RX8, TX8, 14), (RX9, TX9, 9), (RX10, TX10, 9), (RX11, TX11, 15), (RX12, TX12, 52)]
def u_tyF : Nat → Nat → FieldType := fun c => match c with
  | 0 => tyX0
  | 1 => tyX1
  | 2 => tyX2
  | 3 => tyX3
  | 4 => tyX4
  | 5 => tyX5
  | 6 => tyX6
  | 7 => tyX7
  | 8 => tyX8
  | 9 => tyX9
  | 10 => tyX10
  | 11 => tyX11
  | _ => tyX12
theorem u_nm : ∀ (ci : Nat) (q : vw_C), vwCl[ci]? = some q → ∀ a, a < q.2.2 → ∀ b, b < q.2.2 → a ≠ b → (q.2.1 a).2.1 ≠ (q.2.1 b).2.1 := by
  intro ci q h
  match ci, h with
  | 0, h => cases h; exact nmX0
  | 1, h => cases h; exact nmX1
  | 2, h => cases h; exact nmX2
  | 3, h => cases h; exact nmX3
  | 4, h => cases h; exact nmX4
  | 5, h => cases h; exact nmX5
  | 6, h => cases h; exact nmX6
  | 7, h => cases h; exact nmX7
  | 8, h => cases h; exact nmX8
  | 9, h => cases h; exact nmX9
  | 10, h => cases h; exact nmX10
  | 11, h => cases h; exact nmX11
  | 12, h => cases h; exact nmX12
  | n + 13, h => simp at h
theorem u_tyk : ∀ (ci : Nat) (q : vw_C), vwCl[ci]? = some q → ∀ k, k < q.2.2 → parseFieldDescriptor (q.2.1 k).2.2.1 = some (u_tyF ci k) := by
  intro ci q h
  match ci, h with
  | 0, h => cases h; exact tyX0_ok
  | 1, h => cases h; exact tyX1_ok
  | 2, h => cases h; exact tyX2_ok
  | 3, h => cases h; exact tyX3_ok
  | 4, h => cases h; exact tyX4_ok
  | 5, h => cases h; exact tyX5_ok
  | 6, h => cases h; exact tyX6_ok
  | 7, h => cases h; exact tyX7_ok
  | 8, h => cases h; exact tyX8_ok
  | 9, h => cases h; exact tyX9_ok
  | 10, h => cases h; exact tyX10_ok
  | 11, h => cases h; exact tyX11_ok
  | 12, h => cases h; exact tyX12_ok
  | n + 13, h => simp at h
theorem u_inw : ∀ (ci : Nat) (q : vw_C), vwCl[ci]? = some q → ∀ w ∈ u_ws q.1 q.2.1 q.2.2, w ∈ lw_T := by
  intro ci q h
  match ci, h with
  | 0, h => cases h; exact inX0
  | 1, h => cases h; exact inX1
  | 2, h => cases h; exact inX2
  | 3, h => cases h; exact inX3
  | 4, h => cases h; exact inX4
  | 5, h => cases h; exact inX5
  | 6, h => cases h; exact inX6
  | 7, h => cases h; exact inX7
  | 8, h => cases h; exact inX8
  | 9, h => cases h; exact inX9
  | 10, h => cases h; exact inX10
  | 11, h => cases h; exact inX11
  | 12, h => cases h; exact inX12
  | n + 13, h => simp at h
theorem u_def_ok : ∀ (ci : Nat) (q : vw_C), vwCl[ci]? = some q → (u_def ci).length = q.2.2 ∧ ∀ j, j < q.2.2 → defaultValue (u_tyF ci j) = vp_V (u_def ci) j := by
  intro ci q h
  match ci, h with
  | 0, h => cases h; exact ⟨rfl, by decide +kernel⟩
  | 1, h => cases h; exact ⟨rfl, by decide +kernel⟩
  | 2, h => cases h; exact ⟨rfl, by decide +kernel⟩
  | 3, h => cases h; exact ⟨rfl, by decide +kernel⟩
  | 4, h => cases h; exact ⟨rfl, by decide +kernel⟩
  | 5, h => cases h; exact ⟨rfl, by decide +kernel⟩
  | 6, h => cases h; exact ⟨rfl, by decide +kernel⟩
  | 7, h => cases h; exact ⟨rfl, by decide +kernel⟩
  | 8, h => cases h; exact ⟨rfl, by decide +kernel⟩
  | 9, h => cases h; exact ⟨rfl, by decide +kernel⟩
  | 10, h => cases h; exact ⟨rfl, by decide +kernel⟩
  | 11, h => cases h; exact ⟨rfl, by decide +kernel⟩
  | 12, h => cases h; exact ⟨rfl, by decide +kernel⟩
  | n + 13, h => simp at h
