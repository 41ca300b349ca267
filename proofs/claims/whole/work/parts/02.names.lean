theorem tb_sub (ws : List Cond) (ps : List Nat) (hp : ws = ps.filterMap (fun i => lw_tbl[i]?)) (h : ws.all goodWord = true) : ∀ w ∈ ws, w ∈ tb := by
  intro w hw
  have h1 := List.all_eq_true.mp h w hw
  rw [hp] at hw
  obtain ⟨i, -, hi⟩ := List.mem_filterMap.mp hw
  exact tb_in i hi h1
def RX0 : String := "BellHammer$Book"
def TX0 : u_T := fun k => match k with
  | 0 => ("BellHammer$Book", "nights", "I", false)
  | 1 => ("BellHammer$Book", "takings", "I", false)
  | 2 => ("BellHammer$Book", "inForce", "I", false)
  | 3 => ("BellHammer$Book", "now", "[I", true)
  | 4 => ("BellHammer$Book", "crowd", "I", false)
  | 5 => ("BellHammer$Book", "rings", "I", false)
  | 6 => ("BellHammer$Book", "seed", "I", false)
  | 7 => ("BellHammer$Book", "acts", "I", false)
  | 8 => ("BellHammer$Book", "actKind", "[I", true)
  | 9 => ("BellHammer$Book", "actOld", "[I", true)
  | 10 => ("BellHammer$Book", "actBlows", "[I", true)
  | 11 => ("BellHammer$Book", "blows", "[I", true)
  | _ => ("BellHammer$Book", "keptBlows", "I", false)
def tyX0 : Nat → FieldType := fun k => match k with
  | 0 => .int
  | 1 => .int
  | 2 => .int
  | 3 => .array .int
  | 4 => .int
  | 5 => .int
  | 6 => .int
  | 7 => .int
  | 8 => .array .int
  | 9 => .array .int
  | 10 => .array .int
  | 11 => .array .int
  | _ => .int
theorem nmX0 : ∀ a, a < 13 → ∀ b, b < 13 → a ≠ b → (TX0 a).2.1 ≠ (TX0 b).2.1 := by decide +kernel
theorem tyX0_ok : ∀ k, k < 13 → parseFieldDescriptor (TX0 k).2.2.1 = some (tyX0 k) := by decide +kernel
set_option maxRecDepth 20000 in
theorem inX0 : ∀ w ∈ u_ws RX0 TX0 13, w ∈ tb := tb_sub _ [358, 360, 362, 364, 366, 368, 370, 372, 374, 376, 378, 380, 382] (by decide +kernel) (by decide +kernel)
def RX1 : String := "BellHammer$Fair"
def TX1 : u_T := fun k => match k with
  | 0 => ("BellHammer$Fair", "markName", "[I", true)
  | 1 => ("BellHammer$Fair", "markHeight", "[I", true)
  | 2 => ("BellHammer$Fair", "trierName", "[I", true)
  | 3 => ("BellHammer$Fair", "traits", "[I", true)
  | 4 => ("BellHammer$Fair", "settings", "[I", true)
  | 5 => ("BellHammer$Fair", "code", "[I", true)
  | 6 => ("BellHammer$Fair", "ruleEnd", "[I", true)
  | 7 => ("BellHammer$Fair", "codeSize", "I", false)
  | 8 => ("BellHammer$Fair", "marks", "I", false)
  | 9 => ("BellHammer$Fair", "triers", "I", false)
  | 10 => ("BellHammer$Fair", "rules", "I", false)
  | _ => ("BellHammer$Fair", "statements", "I", false)
def tyX1 : Nat → FieldType := fun k => match k with
  | 0 => .array .int
  | 1 => .array .int
  | 2 => .array .int
  | 3 => .array .int
  | 4 => .array .int
  | 5 => .array .int
  | 6 => .array .int
  | 7 => .int
  | 8 => .int
  | 9 => .int
  | 10 => .int
  | _ => .int
theorem nmX1 : ∀ a, a < 12 → ∀ b, b < 12 → a ≠ b → (TX1 a).2.1 ≠ (TX1 b).2.1 := by decide +kernel
theorem tyX1_ok : ∀ k, k < 12 → parseFieldDescriptor (TX1 k).2.2.1 = some (tyX1 k) := by decide +kernel
set_option maxRecDepth 20000 in
theorem inX1 : ∀ w ∈ u_ws RX1 TX1 12, w ∈ tb := tb_sub _ [288, 290, 292, 294, 296, 298, 300, 302, 304, 306, 308, 310] (by decide +kernel) (by decide +kernel)
def RX3 : String := "BellHammer$Parser"
def TX3 : u_T := fun k => match k with
  | 0 => ("BellHammer$Parser", "reader", "LBellHammer$Reader;", true)
  | 1 => ("BellHammer$Parser", "draft", "LBellHammer$Fair;", false)
  | 2 => ("BellHammer$Parser", "fault", "I", false)
  | _ => ("BellHammer$Parser", "place", "I", false)
def tyX3 : Nat → FieldType := fun k => match k with
  | 0 => .object "BellHammer$Reader"
  | 1 => .object "BellHammer$Fair"
  | 2 => .int
  | _ => .int
theorem nmX3 : ∀ a, a < 4 → ∀ b, b < 4 → a ≠ b → (TX3 a).2.1 ≠ (TX3 b).2.1 := by decide +kernel
theorem tyX3_ok : ∀ k, k < 4 → parseFieldDescriptor (TX3 k).2.2.1 = some (tyX3 k) := by decide +kernel
set_option maxRecDepth 20000 in
theorem inX3 : ∀ w ∈ u_ws RX3 TX3 4, w ∈ tb := tb_sub _ [320, 322, 324, 326] (by decide +kernel) (by decide +kernel)
def RX4 : String := "BellHammer$Reader"
def TX4 : u_T := fun k => match k with
  | 0 => ("BellHammer$Reader", "own", "[I", true)
  | 1 => ("BellHammer$Reader", "text", "[I", false)
  | 2 => ("BellHammer$Reader", "length", "I", false)
  | 3 => ("BellHammer$Reader", "at", "I", false)
  | 4 => ("BellHammer$Reader", "kind", "I", false)
  | 5 => ("BellHammer$Reader", "start", "I", false)
  | 6 => ("BellHammer$Reader", "size", "I", false)
  | _ => ("BellHammer$Reader", "value", "I", false)
def tyX4 : Nat → FieldType := fun k => match k with
  | 0 => .array .int
  | 1 => .array .int
  | 2 => .int
  | 3 => .int
  | 4 => .int
  | 5 => .int
  | 6 => .int
  | _ => .int
theorem nmX4 : ∀ a, a < 8 → ∀ b, b < 8 → a ≠ b → (TX4 a).2.1 ≠ (TX4 b).2.1 := by decide +kernel
theorem tyX4_ok : ∀ k, k < 8 → parseFieldDescriptor (TX4 k).2.2.1 = some (tyX4 k) := by decide +kernel
set_option maxRecDepth 20000 in
theorem inX4 : ∀ w ∈ u_ws RX4 TX4 8, w ∈ tb := tb_sub _ [216, 218, 220, 222, 224, 226, 228, 230] (by decide +kernel) (by decide +kernel)
def RX5 : String := "BellHammer$Showman"
def TX5 : u_T := fun k => match k with
  | 0 => ("BellHammer$Showman", "facts", "[I", true)
  | _ => ("BellHammer$Showman", "stack", "[I", true)
def tyX5 : Nat → FieldType := fun k => match k with
  | 0 => .array .int
  | _ => .array .int
theorem nmX5 : ∀ a, a < 2 → ∀ b, b < 2 → a ≠ b → (TX5 a).2.1 ≠ (TX5 b).2.1 := by decide +kernel
theorem tyX5_ok : ∀ k, k < 2 → parseFieldDescriptor (TX5 k).2.2.1 = some (tyX5 k) := by decide +kernel
set_option maxRecDepth 20000 in
theorem inX5 : ∀ w ∈ u_ws RX5 TX5 2, w ∈ tb := tb_sub _ [393, 395] (by decide +kernel) (by decide +kernel)
def RX6 : String := "BellHammer$Tape"
def TX6 : u_T := fun k => match k with
  | 0 => ("BellHammer$Tape", "bytes", "[I", true)
  | _ => ("BellHammer$Tape", "size", "I", false)
def tyX6 : Nat → FieldType := fun k => match k with
  | 0 => .array .int
  | _ => .int
theorem nmX6 : ∀ a, a < 2 → ∀ b, b < 2 → a ≠ b → (TX6 a).2.1 ≠ (TX6 b).2.1 := by decide +kernel
theorem tyX6_ok : ∀ k, k < 2 → parseFieldDescriptor (TX6 k).2.2.1 = some (tyX6 k) := by decide +kernel
set_option maxRecDepth 20000 in
theorem inX6 : ∀ w ∈ u_ws RX6 TX6 2, w ∈ tb := tb_sub _ [137, 139] (by decide +kernel) (by decide +kernel)
def RX7 : String := "BellHammer$Tree"
def TX7 : u_T := fun k => match k with
  | 0 => ("BellHammer$Tree", "turn", "LBellHammer$Turn;", true)
  | 1 => ("BellHammer$Tree", "showman", "LBellHammer$Showman;", true)
  | 2 => ("BellHammer$Tree", "rings", "J", false)
  | 3 => ("BellHammer$Tree", "blows", "J", false)
  | 4 => ("BellHammer$Tree", "leans", "J", false)
  | 5 => ("BellHammer$Tree", "people", "J", false)
  | 6 => ("BellHammer$Tree", "fewest", "I", false)
  | 7 => ("BellHammer$Tree", "most", "I", false)
  | 8 => ("BellHammer$Tree", "winner", "I", false)
  | 9 => ("BellHammer$Tree", "winnerBlows", "J", false)
  | 10 => ("BellHammer$Tree", "knownBlows", "[J", true)
  | 11 => ("BellHammer$Tree", "knownRules", "[I", true)
  | _ => ("BellHammer$Tree", "blowsByRules", "[J", true)
def tyX7 : Nat → FieldType := fun k => match k with
  | 0 => .object "BellHammer$Turn"
  | 1 => .object "BellHammer$Showman"
  | 2 => .long
  | 3 => .long
  | 4 => .long
  | 5 => .long
  | 6 => .int
  | 7 => .int
  | 8 => .int
  | 9 => .long
  | 10 => .array .long
  | 11 => .array .int
  | _ => .array .long
theorem nmX7 : ∀ a, a < 13 → ∀ b, b < 13 → a ≠ b → (TX7 a).2.1 ≠ (TX7 b).2.1 := by decide +kernel
theorem tyX7_ok : ∀ k, k < 13 → parseFieldDescriptor (TX7 k).2.2.1 = some (tyX7 k) := by decide +kernel
set_option maxRecDepth 20000 in
theorem inX7 : ∀ w ∈ u_ws RX7 TX7 13, w ∈ tb := tb_sub _ [477, 479, 481, 483, 485, 487, 489, 491, 493, 495, 497, 499, 501] (by decide +kernel) (by decide +kernel)
def RX8 : String := "BellHammer$Turn"
def TX8 : u_T := fun k => match k with
  | 0 => ("BellHammer$Turn", "force", "I", false)
  | 1 => ("BellHammer$Turn", "aim", "I", false)
  | 2 => ("BellHammer$Turn", "tires", "I", false)
  | 3 => ("BellHammer$Turn", "coins", "I", false)
  | 4 => ("BellHammer$Turn", "stays", "I", false)
  | 5 => ("BellHammer$Turn", "lady", "I", false)
  | 6 => ("BellHammer$Turn", "bell", "I", false)
  | 7 => ("BellHammer$Turn", "slack", "I", false)
  | 8 => ("BellHammer$Turn", "price", "I", false)
  | 9 => ("BellHammer$Turn", "tries", "I", false)
  | 10 => ("BellHammer$Turn", "near", "I", false)
  | 11 => ("BellHammer$Turn", "crowd", "I", false)
  | _ => ("BellHammer$Turn", "comes", "[I", true)
def tyX8 : Nat → FieldType := fun k => match k with
  | 0 => .int
  | 1 => .int
  | 2 => .int
  | 3 => .int
  | 4 => .int
  | 5 => .int
  | 6 => .int
  | 7 => .int
  | 8 => .int
  | 9 => .int
  | 10 => .int
  | 11 => .int
  | _ => .array .int
theorem nmX8 : ∀ a, a < 13 → ∀ b, b < 13 → a ≠ b → (TX8 a).2.1 ≠ (TX8 b).2.1 := by decide +kernel
theorem tyX8_ok : ∀ k, k < 13 → parseFieldDescriptor (TX8 k).2.2.1 = some (tyX8 k) := by decide +kernel
set_option maxRecDepth 20000 in
theorem inX8 : ∀ w ∈ u_ws RX8 TX8 13, w ∈ tb := tb_sub _ [425, 427, 429, 431, 433, 435, 437, 439, 441, 443, 445, 447, 449] (by decide +kernel) (by decide +kernel)
def RX10 : String := "BellHammer"
def TX10 : u_T := fun k => match k with
  | 0 => ("BellHammer", "tape", "LBellHammer$Tape;", true)
  | 1 => ("BellHammer", "parser", "LBellHammer$Parser;", true)
  | 2 => ("BellHammer", "book", "LBellHammer$Book;", true)
  | 3 => ("BellHammer", "showman", "LBellHammer$Showman;", true)
  | 4 => ("BellHammer", "turn", "LBellHammer$Turn;", true)
  | 5 => ("BellHammer", "tree", "LBellHammer$Tree;", true)
  | 6 => ("BellHammer", "fair", "LBellHammer$Fair;", false)
  | 7 => ("BellHammer", "seen", "[I", true)
  | 8 => ("BellHammer", "seenBlows", "I", false)
  | 9 => ("BellHammer", "seenTrier", "I", false)
  | 10 => ("BellHammer", "image", "[I", true)
  | 11 => ("BellHammer", "imageBytes", "I", false)
  | _ => ("BellHammer", "refused", "[I", true)
def tyX10 : Nat → FieldType := fun k => match k with
  | 0 => .object "BellHammer$Tape"
  | 1 => .object "BellHammer$Parser"
  | 2 => .object "BellHammer$Book"
  | 3 => .object "BellHammer$Showman"
  | 4 => .object "BellHammer$Turn"
  | 5 => .object "BellHammer$Tree"
  | 6 => .object "BellHammer$Fair"
  | 7 => .array .int
  | 8 => .int
  | 9 => .int
  | 10 => .array .int
  | 11 => .int
  | _ => .array .int
theorem nmX10 : ∀ a, a < 13 → ∀ b, b < 13 → a ≠ b → (TX10 a).2.1 ≠ (TX10 b).2.1 := by decide +kernel
theorem tyX10_ok : ∀ k, k < 13 → parseFieldDescriptor (TX10 k).2.2.1 = some (tyX10 k) := by decide +kernel
set_option maxRecDepth 20000 in
theorem inX10 : ∀ w ∈ u_ws RX10 TX10 13, w ∈ tb := tb_sub _ [520, 522, 524, 526, 528, 530, 532, 534, 536, 538, 540, 542, 544] (by decide +kernel) (by decide +kernel)
def RX11 : String := "BellHammerModel"
def TX11 : u_T := fun k => match k with
  | 0 => ("BellHammerModel", "tape", "[I", true)
  | 1 => ("BellHammerModel", "taped", "I", false)
  | 2 => ("BellHammerModel", "at", "I", false)
  | 3 => ("BellHammerModel", "end", "I", false)
  | 4 => ("BellHammerModel", "ended", "I", false)
  | 5 => ("BellHammerModel", "bad", "I", false)
  | 6 => ("BellHammerModel", "badPlace", "I", false)
  | 7 => ("BellHammerModel", "fault", "I", false)
  | 8 => ("BellHammerModel", "faultPlace", "I", false)
  | 9 => ("BellHammerModel", "refused", "[I", true)
  | 10 => ("BellHammerModel", "markWord", "[C", true)
  | 11 => ("BellHammerModel", "atWord", "[C", true)
  | 12 => ("BellHammerModel", "trierWord", "[C", true)
  | 13 => ("BellHammerModel", "forceWord", "[C", true)
  | 14 => ("BellHammerModel", "aimWord", "[C", true)
  | 15 => ("BellHammerModel", "tiresWord", "[C", true)
  | 16 => ("BellHammerModel", "coinsWord", "[C", true)
  | 17 => ("BellHammerModel", "staysWord", "[C", true)
  | 18 => ("BellHammerModel", "ladyWord", "[C", true)
  | 19 => ("BellHammerModel", "leanWord", "[C", true)
  | 20 => ("BellHammerModel", "whenWord", "[C", true)
  | 21 => ("BellHammerModel", "bellWord", "[C", true)
  | 22 => ("BellHammerModel", "priceWord", "[C", true)
  | 23 => ("BellHammerModel", "triesWord", "[C", true)
  | 24 => ("BellHammerModel", "slackWord", "[C", true)
  | 25 => ("BellHammerModel", "crowdWord", "[C", true)
  | 26 => ("BellHammerModel", "nearWord", "[C", true)
  | 27 => ("BellHammerModel", "comesWord", "[C", true)
  | 28 => ("BellHammerModel", "triedWord", "[C", true)
  | 29 => ("BellHammerModel", "lastWord", "[C", true)
  | 30 => ("BellHammerModel", "ringsWord", "[C", true)
  | 31 => ("BellHammerModel", "orWord", "[C", true)
  | 32 => ("BellHammerModel", "andWord", "[C", true)
  | 33 => ("BellHammerModel", "notWord", "[C", true)
  | 34 => ("BellHammerModel", "allWord", "[C", true)
  | 35 => ("BellHammerModel", "minWord", "[C", true)
  | 36 => ("BellHammerModel", "maxWord", "[C", true)
  | 37 => ("BellHammerModel", "namePlace", "I", false)
  | 38 => ("BellHammerModel", "many", "[I", true)
  | 39 => ("BellHammerModel", "names", "[J", true)
  | 40 => ("BellHammerModel", "marks", "[I", true)
  | 41 => ("BellHammerModel", "triers", "[I", true)
  | 42 => ("BellHammerModel", "told", "[I", true)
  | 43 => ("BellHammerModel", "statements", "I", false)
  | 44 => ("BellHammerModel", "codes", "[I", true)
  | 45 => ("BellHammerModel", "coded", "I", false)
  | 46 => ("BellHammerModel", "wait", "[I", true)
  | 47 => ("BellHammerModel", "waits", "I", false)
  | 48 => ("BellHammerModel", "open", "I", false)
  | 49 => ("BellHammerModel", "testFrom", "[I", true)
  | 50 => ("BellHammerModel", "testEnd", "[I", true)
  | 51 => ("BellHammerModel", "base", "I", false)
  | 52 => ("BellHammerModel", "pile", "[J", true)
  | 53 => ("BellHammerModel", "piled", "I", false)
  | 54 => ("BellHammerModel", "ask", "[I", true)
  | 55 => ("BellHammerModel", "now", "[I", true)
  | 56 => ("BellHammerModel", "blows", "[I", true)
  | 57 => ("BellHammerModel", "turnRules", "I", false)
  | 58 => ("BellHammerModel", "turnBell", "I", false)
  | 59 => ("BellHammerModel", "turnCrowd", "I", false)
  | 60 => ("BellHammerModel", "turnRings", "I", false)
  | 61 => ("BellHammerModel", "turnCoins", "I", false)
  | 62 => ("BellHammerModel", "turnTried", "I", false)
  | 63 => ("BellHammerModel", "turnLast", "I", false)
  | 64 => ("BellHammerModel", "turnSlack", "Z", false)
  | 65 => ("BellHammerModel", "turnLeant", "Z", false)
  | 66 => ("BellHammerModel", "treeRows", "J", false)
  | 67 => ("BellHammerModel", "treeRings", "J", false)
  | 68 => ("BellHammerModel", "treePaid", "J", false)
  | 69 => ("BellHammerModel", "treeLeant", "J", false)
  | 70 => ("BellHammerModel", "treeCrowd", "J", false)
  | 71 => ("BellHammerModel", "treeFewest", "I", false)
  | 72 => ("BellHammerModel", "treeMost", "I", false)
  | 73 => ("BellHammerModel", "keptNow", "[I", true)
  | 74 => ("BellHammerModel", "undoable", "I", false)
  | 75 => ("BellHammerModel", "newest", "I", false)
  | 76 => ("BellHammerModel", "seeded", "J", false)
  | 77 => ("BellHammerModel", "seenMany", "I", false)
  | 78 => ("BellHammerModel", "seenTrier", "I", false)
  | 79 => ("BellHammerModel", "seen", "[I", true)
  | 80 => ("BellHammerModel", "octet", "[I", true)
  | _ => ("BellHammerModel", "octets", "I", false)
def tyX11 : Nat → FieldType := fun k => match k with
  | 0 => .array .int
  | 1 => .int
  | 2 => .int
  | 3 => .int
  | 4 => .int
  | 5 => .int
  | 6 => .int
  | 7 => .int
  | 8 => .int
  | 9 => .array .int
  | 10 => .array .char
  | 11 => .array .char
  | 12 => .array .char
  | 13 => .array .char
  | 14 => .array .char
  | 15 => .array .char
  | 16 => .array .char
  | 17 => .array .char
  | 18 => .array .char
  | 19 => .array .char
  | 20 => .array .char
  | 21 => .array .char
  | 22 => .array .char
  | 23 => .array .char
  | 24 => .array .char
  | 25 => .array .char
  | 26 => .array .char
  | 27 => .array .char
  | 28 => .array .char
  | 29 => .array .char
  | 30 => .array .char
  | 31 => .array .char
  | 32 => .array .char
  | 33 => .array .char
  | 34 => .array .char
  | 35 => .array .char
  | 36 => .array .char
  | 37 => .int
  | 38 => .array .int
  | 39 => .array .long
  | 40 => .array .int
  | 41 => .array .int
  | 42 => .array .int
  | 43 => .int
  | 44 => .array .int
  | 45 => .int
  | 46 => .array .int
  | 47 => .int
  | 48 => .int
  | 49 => .array .int
  | 50 => .array .int
  | 51 => .int
  | 52 => .array .long
  | 53 => .int
  | 54 => .array .int
  | 55 => .array .int
  | 56 => .array .int
  | 57 => .int
  | 58 => .int
  | 59 => .int
  | 60 => .int
  | 61 => .int
  | 62 => .int
  | 63 => .int
  | 64 => .boolean
  | 65 => .boolean
  | 66 => .long
  | 67 => .long
  | 68 => .long
  | 69 => .long
  | 70 => .long
  | 71 => .int
  | 72 => .int
  | 73 => .array .int
  | 74 => .int
  | 75 => .int
  | 76 => .long
  | 77 => .int
  | 78 => .int
  | 79 => .array .int
  | 80 => .array .int
  | _ => .int
theorem nmX11 : ∀ a, a < 82 → ∀ b, b < 82 → a ≠ b → (TX11 a).2.1 ≠ (TX11 b).2.1 := by decide +kernel
theorem tyX11_ok : ∀ k, k < 82 → parseFieldDescriptor (TX11 k).2.2.1 = some (tyX11 k) := by decide +kernel
set_option maxRecDepth 20000 in
theorem inX11 : ∀ w ∈ u_ws RX11 TX11 82, w ∈ tb := tb_sub _ [1176, 1178, 1180, 1182, 1184, 1186, 1188, 1190, 1192, 1194, 1196, 1198, 1200, 1202, 1204, 1206, 1208, 1210, 1212, 1214, 1216, 1218, 1220, 1222, 1224, 1226, 1228, 1230, 1232, 1234, 1236, 1238, 1240, 1242, 1244, 1246, 1248, 1250, 1252, 1254, 1256, 1258, 1260, 1262, 1264, 1266, 1268, 1270, 1272, 1274, 1276, 1278, 1280, 1282, 1284, 1286, 1288, 1290, 1292, 1294, 1296, 1298, 1300, 1302, 1304, 1306, 1308, 1310, 1312, 1314, 1316, 1318, 1320, 1322, 1324, 1326, 1328, 1330, 1332, 1334, 1336, 1338] (by decide +kernel) (by decide +kernel)
