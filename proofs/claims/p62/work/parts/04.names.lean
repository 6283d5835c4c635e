def RX0 : String := "AvalancheGallery$1"
def TX0 : u_T := fun k => match k with
  | _ => ("", "", "", false)
def tyX0 : Nat → FieldType := fun k => match k with
  | _ => .int
abbrev wsX00 : List Cond := u_ws RX0 TX0 0
theorem nmX0 : ∀ a, a < 0 → ∀ b, b < 0 → a ≠ b → (TX0 a).2.1 ≠ (TX0 b).2.1 := by decide +kernel
theorem tyX0_ok : ∀ k, k < 0 → parseFieldDescriptor (TX0 k).2.2.1 = some (tyX0 k) := by decide +kernel
def RX1 : String := "AvalancheGallery$Exhibit"
def TX1 : u_T := fun k => match k with
  | 0 => ("AvalancheGallery$Exhibit", "room", "I", false)
  | 1 => ("AvalancheGallery$Exhibit", "caseLimit", "I", false)
  | 2 => ("AvalancheGallery$Exhibit", "pile", "[I", true)
  | 3 => ("AvalancheGallery$Exhibit", "droppedGrains", "I", false)
  | 4 => ("AvalancheGallery$Exhibit", "spilledGrains", "I", false)
  | 5 => ("AvalancheGallery$Exhibit", "meltedGrains", "I", false)
  | 6 => ("AvalancheGallery$Exhibit", "asked", "I", false)
  | 7 => ("AvalancheGallery$Exhibit", "firstDays", "[I", true)
  | 8 => ("AvalancheGallery$Exhibit", "lastDays", "[I", true)
  | 9 => ("AvalancheGallery$Exhibit", "loanFees", "[I", true)
  | 10 => ("AvalancheGallery$Exhibit", "taken", "I", false)
  | _ => ("AvalancheGallery$Exhibit", "loanEnds", "[I", true)
def tyX1 : Nat → FieldType := fun k => match k with
  | 0 => .int
  | 1 => .int
  | 2 => .array .int
  | 3 => .int
  | 4 => .int
  | 5 => .int
  | 6 => .int
  | 7 => .array .int
  | 8 => .array .int
  | 9 => .array .int
  | 10 => .int
  | _ => .array .int
abbrev wsX10 : List Cond := u_ws RX1 TX1 12
theorem nmX1 : ∀ a, a < 12 → ∀ b, b < 12 → a ≠ b → (TX1 a).2.1 ≠ (TX1 b).2.1 := by decide +kernel
theorem tyX1_ok : ∀ k, k < 12 → parseFieldDescriptor (TX1 k).2.2.1 = some (tyX1 k) := by decide +kernel
abbrev cX1_init : ByteArray := prog_3_method_1_code
def yX1_init : MethodName := ⟨RX1, "<init>", "()V"⟩
abbrev cX1_copyFrom : ByteArray := prog_3_method_2_code
def yX1_copyFrom : MethodName := ⟨RX1, "copyFrom", "(LAvalancheGallery$Exhibit;)V"⟩
abbrev cX1_melt : ByteArray := prog_3_method_3_code
def yX1_melt : MethodName := ⟨RX1, "melt", "(I)I"⟩
abbrev cX1_loanEndOn : ByteArray := prog_3_method_4_code
def yX1_loanEndOn : MethodName := ⟨RX1, "loanEndOn", "(I)I"⟩
abbrev cX1_noteLoan : ByteArray := prog_3_method_5_code
def yX1_noteLoan : MethodName := ⟨RX1, "noteLoan", "(III)I"⟩
abbrev cX1_takeLoans : ByteArray := prog_3_method_6_code
def yX1_takeLoans : MethodName := ⟨RX1, "takeLoans", "(I)V"⟩
abbrev cX1_takeLoan : ByteArray := prog_3_method_7_code
def yX1_takeLoan : MethodName := ⟨RX1, "takeLoan", "(I)V"⟩
abbrev cX1_contains : ByteArray := prog_3_method_8_code
def yX1_contains : MethodName := ⟨RX1, "contains", "(II)Z"⟩
abbrev cX1_bestChoice : ByteArray := prog_3_method_9_code
def yX1_bestChoice : MethodName := ⟨RX1, "bestChoice", "()I"⟩
abbrev cX1_hinderedLoans : ByteArray := prog_3_method_10_code
def yX1_hinderedLoans : MethodName := ⟨RX1, "hinderedLoans", "()I"⟩
abbrev cX1_feesOf : ByteArray := prog_3_method_11_code
def yX1_feesOf : MethodName := ⟨RX1, "feesOf", "(I)I"⟩
abbrev cX1_isBetter : ByteArray := prog_3_method_12_code
def yX1_isBetter : MethodName := ⟨RX1, "isBetter", "(II)Z"⟩
abbrev cX1_isApart : ByteArray := prog_3_method_13_code
def yX1_isApart : MethodName := ⟨RX1, "isApart", "(I)Z"⟩
abbrev cX1_meetsEarlier : ByteArray := prog_3_method_14_code
def yX1_meetsEarlier : MethodName := ⟨RX1, "meetsEarlier", "(II)Z"⟩
abbrev cX1_isFree : ByteArray := prog_3_method_15_code
def yX1_isFree : MethodName := ⟨RX1, "isFree", "(I)Z"⟩
def RX2 : String := "AvalancheGallery$Fault"
def TX2 : u_T := fun k => match k with
  | _ => ("", "", "", false)
def tyX2 : Nat → FieldType := fun k => match k with
  | _ => .int
abbrev wsX20 : List Cond := u_ws RX2 TX2 0
theorem nmX2 : ∀ a, a < 0 → ∀ b, b < 0 → a ≠ b → (TX2 a).2.1 ≠ (TX2 b).2.1 := by decide +kernel
theorem tyX2_ok : ∀ k, k < 0 → parseFieldDescriptor (TX2 k).2.2.1 = some (tyX2 k) := by decide +kernel
def RX3 : String := "AvalancheGallery$Form"
def TX3 : u_T := fun k => match k with
  | _ => ("", "", "", false)
def tyX3 : Nat → FieldType := fun k => match k with
  | _ => .int
abbrev wsX30 : List Cond := u_ws RX3 TX3 0
theorem nmX3 : ∀ a, a < 0 → ∀ b, b < 0 → a ≠ b → (TX3 a).2.1 ≠ (TX3 b).2.1 := by decide +kernel
theorem tyX3_ok : ∀ k, k < 0 → parseFieldDescriptor (TX3 k).2.2.1 = some (tyX3 k) := by decide +kernel
def RX4 : String := "AvalancheGallery$History"
def TX4 : u_T := fun k => match k with
  | 0 => ("AvalancheGallery$History", "slots", "[LAvalancheGallery$State;", true)
  | 1 => ("AvalancheGallery$History", "free", "I", false)
  | _ => ("AvalancheGallery$History", "changes", "I", false)
def tyX4 : Nat → FieldType := fun k => match k with
  | 0 => .array (.object "AvalancheGallery$State")
  | 1 => .int
  | _ => .int
abbrev wsX40 : List Cond := u_ws RX4 TX4 3
theorem nmX4 : ∀ a, a < 3 → ∀ b, b < 3 → a ≠ b → (TX4 a).2.1 ≠ (TX4 b).2.1 := by decide +kernel
theorem tyX4_ok : ∀ k, k < 3 → parseFieldDescriptor (TX4 k).2.2.1 = some (tyX4 k) := by decide +kernel
abbrev cX4_init : ByteArray := prog_6_method_1_code
def yX4_init : MethodName := ⟨RX4, "<init>", "()V"⟩
abbrev cX4_note : ByteArray := prog_6_method_2_code
def yX4_note : MethodName := ⟨RX4, "note", "(LAvalancheGallery$State;)V"⟩
abbrev cX4_noted : ByteArray := prog_6_method_3_code
def yX4_noted : MethodName := ⟨RX4, "noted", "()LAvalancheGallery$State;"⟩
abbrev cX4_keep : ByteArray := prog_6_method_4_code
def yX4_keep : MethodName := ⟨RX4, "keep", "()V"⟩
abbrev cX4_stepBack : ByteArray := prog_6_method_5_code
def yX4_stepBack : MethodName := ⟨RX4, "stepBack", "()V"⟩
def RX5 : String := "AvalancheGallery$Lender"
def TX5 : u_T := fun k => match k with
  | 0 => ("AvalancheGallery$Lender", "order", "[I", true)
  | _ => ("AvalancheGallery$Lender", "best", "[I", true)
def tyX5 : Nat → FieldType := fun k => match k with
  | 0 => .array .int
  | _ => .array .int
abbrev wsX50 : List Cond := u_ws RX5 TX5 2
theorem nmX5 : ∀ a, a < 2 → ∀ b, b < 2 → a ≠ b → (TX5 a).2.1 ≠ (TX5 b).2.1 := by decide +kernel
theorem tyX5_ok : ∀ k, k < 2 → parseFieldDescriptor (TX5 k).2.2.1 = some (tyX5 k) := by decide +kernel
abbrev cX5_init : ByteArray := prog_7_method_1_code
def yX5_init : MethodName := ⟨RX5, "<init>", "()V"⟩
abbrev cX5_feesByLastDays : ByteArray := prog_7_method_2_code
def yX5_feesByLastDays : MethodName := ⟨RX5, "feesByLastDays", "(LAvalancheGallery$Exhibit;)I"⟩
abbrev cX5_sortByLastDays : ByteArray := prog_7_method_3_code
def yX5_sortByLastDays : MethodName := ⟨RX5, "sortByLastDays", "(LAvalancheGallery$Exhibit;)V"⟩
abbrev cX5_countEndedBefore : ByteArray := prog_7_method_4_code
def yX5_countEndedBefore : MethodName := ⟨RX5, "countEndedBefore", "(LAvalancheGallery$Exhibit;I)I"⟩
def RX6 : String := "AvalancheGallery$Sand"
def TX6 : u_T := fun k => match k with
  | 0 => ("AvalancheGallery$Sand", "trial", "[I", true)
  | 1 => ("AvalancheGallery$Sand", "topplings", "[I", true)
  | 2 => ("AvalancheGallery$Sand", "marked", "[Z", true)
  | _ => ("AvalancheGallery$Sand", "slopes", "[I", true)
def tyX6 : Nat → FieldType := fun k => match k with
  | 0 => .array .int
  | 1 => .array .int
  | 2 => .array .boolean
  | _ => .array .int
abbrev wsX60 : List Cond := u_ws RX6 TX6 4
theorem nmX6 : ∀ a, a < 4 → ∀ b, b < 4 → a ≠ b → (TX6 a).2.1 ≠ (TX6 b).2.1 := by decide +kernel
theorem tyX6_ok : ∀ k, k < 4 → parseFieldDescriptor (TX6 k).2.2.1 = some (tyX6 k) := by decide +kernel
abbrev cX6_init : ByteArray := prog_8_method_1_code
def yX6_init : MethodName := ⟨RX6, "<init>", "()V"⟩
abbrev cX6_beside : ByteArray := prog_8_method_2_code
def yX6_beside : MethodName := ⟨RX6, "beside", "(II)I"⟩
abbrev cX6_countGrains : ByteArray := prog_8_method_3_code
def yX6_countGrains : MethodName := ⟨RX6, "countGrains", "([I)I"⟩
abbrev cX6_highestPlace : ByteArray := prog_8_method_4_code
def yX6_highestPlace : MethodName := ⟨RX6, "highestPlace", "([I)I"⟩
abbrev cX6_fallOn : ByteArray := prog_8_method_5_code
def yX6_fallOn : MethodName := ⟨RX6, "fallOn", "(LAvalancheGallery$Exhibit;II)I"⟩
abbrev cX6_tryFall : ByteArray := prog_8_method_6_code
def yX6_tryFall : MethodName := ⟨RX6, "tryFall", "(LAvalancheGallery$Exhibit;II)V"⟩
abbrev cX6_toppleOnce : ByteArray := prog_8_method_7_code
def yX6_toppleOnce : MethodName := ⟨RX6, "toppleOnce", "([II)V"⟩
abbrev cX6_toppleByPlaces : ByteArray := prog_8_method_8_code
def yX6_toppleByPlaces : MethodName := ⟨RX6, "toppleByPlaces", "([I)I"⟩
abbrev cX6_toppleByRounds : ByteArray := prog_8_method_9_code
def yX6_toppleByRounds : MethodName := ⟨RX6, "toppleByRounds", "([I)I"⟩
abbrev cX6_markReady : ByteArray := prog_8_method_10_code
def yX6_markReady : MethodName := ⟨RX6, "markReady", "([I)I"⟩
abbrev cX6_burnsWhole : ByteArray := prog_8_method_11_code
def yX6_burnsWhole : MethodName := ⟨RX6, "burnsWhole", "([I)Z"⟩
abbrev cX6_countUnmarkedBeside : ByteArray := prog_8_method_12_code
def yX6_countUnmarkedBeside : MethodName := ⟨RX6, "countUnmarkedBeside", "(I)I"⟩
abbrev cX6_topplesOnceEach : ByteArray := prog_8_method_13_code
def yX6_topplesOnceEach : MethodName := ⟨RX6, "topplesOnceEach", "([I)Z"⟩
abbrev cX6_countOpenSides : ByteArray := prog_8_method_14_code
def yX6_countOpenSides : MethodName := ⟨RX6, "countOpenSides", "(I)I"⟩
abbrev cX6_slopeByRecursion : ByteArray := prog_8_method_15_code
def yX6_slopeByRecursion : MethodName := ⟨RX6, "slopeByRecursion", "([I)I"⟩
abbrev cX6_slopeFrom : ByteArray := prog_8_method_16_code
def yX6_slopeFrom : MethodName := ⟨RX6, "slopeFrom", "([III)I"⟩
abbrev cX6_slopeFromFewest : ByteArray := prog_8_method_17_code
def yX6_slopeFromFewest : MethodName := ⟨RX6, "slopeFromFewest", "([I)I"⟩
abbrev cX6_longestLowerSlope : ByteArray := prog_8_method_18_code
def yX6_longestLowerSlope : MethodName := ⟨RX6, "longestLowerSlope", "([II)I"⟩
def RX7 : String := "AvalancheGallery$Script"
def TX7 : u_T := fun k => match k with
  | 0 => ("AvalancheGallery$Script", "text", "[C", true)
  | 1 => ("AvalancheGallery$Script", "length", "I", false)
  | 2 => ("AvalancheGallery$Script", "forms", "[LAvalancheGallery$Form;", true)
  | 3 => ("AvalancheGallery$Script", "values", "[[I", true)
  | 4 => ("AvalancheGallery$Script", "commands", "I", false)
  | _ => ("AvalancheGallery$Script", "end", "I", false)
def tyX7 : Nat → FieldType := fun k => match k with
  | 0 => .array .char
  | 1 => .int
  | 2 => .array (.object "AvalancheGallery$Form")
  | 3 => .array (.array .int)
  | 4 => .int
  | _ => .int
abbrev wsX70 : List Cond := u_ws RX7 TX7 6
theorem nmX7 : ∀ a, a < 6 → ∀ b, b < 6 → a ≠ b → (TX7 a).2.1 ≠ (TX7 b).2.1 := by decide +kernel
theorem tyX7_ok : ∀ k, k < 6 → parseFieldDescriptor (TX7 k).2.2.1 = some (tyX7 k) := by decide +kernel
abbrev cX7_init : ByteArray := prog_9_method_1_code
def yX7_init : MethodName := ⟨RX7, "<init>", "()V"⟩
abbrev cX7_readAll : ByteArray := prog_9_method_2_code
def yX7_readAll : MethodName := ⟨RX7, "readAll", "()I"⟩
abbrev cX7_readCommand : ByteArray := prog_9_method_3_code
def yX7_readCommand : MethodName := ⟨RX7, "readCommand", "(I)Z"⟩
abbrev cX7_readShape : ByteArray := prog_9_method_4_code
def yX7_readShape : MethodName := ⟨RX7, "readShape", "(Ljava/lang/String;I)Z"⟩
abbrev cX7_readNumber : ByteArray := prog_9_method_5_code
def yX7_readNumber : MethodName := ⟨RX7, "readNumber", "(II)V"⟩
def RX8 : String := "AvalancheGallery$State"
def TX8 : u_T := fun k => match k with
  | 0 => ("AvalancheGallery$State", "rooms", "I", false)
  | 1 => ("AvalancheGallery$State", "warmths", "[I", true)
  | 2 => ("AvalancheGallery$State", "minutesOfLegs", "[[I", true)
  | 3 => ("AvalancheGallery$State", "warmthOfLegs", "[[I", true)
  | 4 => ("AvalancheGallery$State", "exhibitsShown", "I", false)
  | 5 => ("AvalancheGallery$State", "exhibits", "[LAvalancheGallery$Exhibit;", true)
  | 6 => ("AvalancheGallery$State", "today", "I", false)
  | _ => ("AvalancheGallery$State", "received", "I", false)
def tyX8 : Nat → FieldType := fun k => match k with
  | 0 => .int
  | 1 => .array .int
  | 2 => .array (.array .int)
  | 3 => .array (.array .int)
  | 4 => .int
  | 5 => .array (.object "AvalancheGallery$Exhibit")
  | 6 => .int
  | _ => .int
abbrev wsX80 : List Cond := u_ws RX8 TX8 8
theorem nmX8 : ∀ a, a < 8 → ∀ b, b < 8 → a ≠ b → (TX8 a).2.1 ≠ (TX8 b).2.1 := by decide +kernel
theorem tyX8_ok : ∀ k, k < 8 → parseFieldDescriptor (TX8 k).2.2.1 = some (tyX8 k) := by decide +kernel
abbrev cX8_init : ByteArray := prog_10_method_1_code
def yX8_init : MethodName := ⟨RX8, "<init>", "()V"⟩
abbrev cX8_copyFrom : ByteArray := prog_10_method_2_code
def yX8_copyFrom : MethodName := ⟨RX8, "copyFrom", "(LAvalancheGallery$State;)V"⟩
abbrev cX8_hasExhibit : ByteArray := prog_10_method_3_code
def yX8_hasExhibit : MethodName := ⟨RX8, "hasExhibit", "(I)Z"⟩
abbrev cX8_roomIndexFault : ByteArray := prog_10_method_4_code
def yX8_roomIndexFault : MethodName := ⟨RX8, "roomIndexFault", "(I)LAvalancheGallery$Fault;"⟩
abbrev cX8_pairFault : ByteArray := prog_10_method_5_code
def yX8_pairFault : MethodName := ⟨RX8, "pairFault", "(II)LAvalancheGallery$Fault;"⟩
abbrev cX8_joins : ByteArray := prog_10_method_6_code
def yX8_joins : MethodName := ⟨RX8, "joins", "(II)Z"⟩
abbrev cX8_putRoom : ByteArray := prog_10_method_7_code
def yX8_putRoom : MethodName := ⟨RX8, "putRoom", "(I)I"⟩
abbrev cX8_putLeg : ByteArray := prog_10_method_8_code
def yX8_putLeg : MethodName := ⟨RX8, "putLeg", "(IIII)I"⟩
abbrev cX8_countLegs : ByteArray := prog_10_method_9_code
def yX8_countLegs : MethodName := ⟨RX8, "countLegs", "()I"⟩
abbrev cX8_putExhibit : ByteArray := prog_10_method_10_code
def yX8_putExhibit : MethodName := ⟨RX8, "putExhibit", "(II)I"⟩
abbrev cX8_letDaysPass : ByteArray := prog_10_method_11_code
def yX8_letDaysPass : MethodName := ⟨RX8, "letDaysPass", "(I)I"⟩
abbrev cX8_letDayPass : ByteArray := prog_10_method_12_code
def yX8_letDayPass : MethodName := ⟨RX8, "letDayPass", "()I"⟩
abbrev cX8_lend : ByteArray := prog_10_method_13_code
def yX8_lend : MethodName := ⟨RX8, "lend", "(I)I"⟩
def RX9 : String := "AvalancheGallery$Ways"
def TX9 : u_T := fun k => match k with
  | 0 => ("AvalancheGallery$Ways", "way", "[I", true)
  | 1 => ("AvalancheGallery$Ways", "stops", "I", false)
  | 2 => ("AvalancheGallery$Ways", "wayMinutes", "I", false)
  | 3 => ("AvalancheGallery$Ways", "costs", "[[I", true)
  | 4 => ("AvalancheGallery$Ways", "table", "[[I", true)
  | 5 => ("AvalancheGallery$Ways", "sums", "[I", true)
  | _ => ("AvalancheGallery$Ways", "settled", "[Z", true)
def tyX9 : Nat → FieldType := fun k => match k with
  | 0 => .array .int
  | 1 => .int
  | 2 => .int
  | 3 => .array (.array .int)
  | 4 => .array (.array .int)
  | 5 => .array .int
  | _ => .array .boolean
abbrev wsX90 : List Cond := u_ws RX9 TX9 7
theorem nmX9 : ∀ a, a < 7 → ∀ b, b < 7 → a ≠ b → (TX9 a).2.1 ≠ (TX9 b).2.1 := by decide +kernel
theorem tyX9_ok : ∀ k, k < 7 → parseFieldDescriptor (TX9 k).2.2.1 = some (tyX9 k) := by decide +kernel
abbrev cX9_init : ByteArray := prog_11_method_1_code
def yX9_init : MethodName := ⟨RX9, "<init>", "()V"⟩
abbrev cX9_findWay : ByteArray := prog_11_method_2_code
def yX9_findWay : MethodName := ⟨RX9, "findWay", "(LAvalancheGallery$State;II)Z"⟩
abbrev cX9_nextRoom : ByteArray := prog_11_method_3_code
def yX9_nextRoom : MethodName := ⟨RX9, "nextRoom", "(II)I"⟩
abbrev cX9_minutesBySettling : ByteArray := prog_11_method_4_code
def yX9_minutesBySettling : MethodName := ⟨RX9, "minutesBySettling", "(LAvalancheGallery$State;II)I"⟩
abbrev cX9_fillTable : ByteArray := prog_11_method_5_code
def yX9_fillTable : MethodName := ⟨RX9, "fillTable", "(LAvalancheGallery$State;)V"⟩
abbrev cX9_shortenOver : ByteArray := prog_11_method_6_code
def yX9_shortenOver : MethodName := ⟨RX9, "shortenOver", "(II)V"⟩
abbrev cX9_minutesInTable : ByteArray := prog_11_method_7_code
def yX9_minutesInTable : MethodName := ⟨RX9, "minutesInTable", "(II)I"⟩
abbrev cX9_passedBySettling : ByteArray := prog_11_method_8_code
def yX9_passedBySettling : MethodName := ⟨RX9, "passedBySettling", "(LAvalancheGallery$State;LAvalancheGallery$Exhibit;I)I"⟩
abbrev cX9_passedByRounds : ByteArray := prog_11_method_9_code
def yX9_passedByRounds : MethodName := ⟨RX9, "passedByRounds", "(LAvalancheGallery$State;LAvalancheGallery$Exhibit;I)I"⟩
abbrev cX9_lookAtLegs : ByteArray := prog_11_method_10_code
def yX9_lookAtLegs : MethodName := ⟨RX9, "lookAtLegs", "(LAvalancheGallery$State;I)Z"⟩
abbrev cX9_weighMinutes : ByteArray := prog_11_method_11_code
def yX9_weighMinutes : MethodName := ⟨RX9, "weighMinutes", "(LAvalancheGallery$State;)V"⟩
abbrev cX9_weighPassed : ByteArray := prog_11_method_12_code
def yX9_weighPassed : MethodName := ⟨RX9, "weighPassed", "(LAvalancheGallery$State;I)V"⟩
abbrev cX9_startAt : ByteArray := prog_11_method_13_code
def yX9_startAt : MethodName := ⟨RX9, "startAt", "(I)V"⟩
abbrev cX9_settleFrom : ByteArray := prog_11_method_14_code
def yX9_settleFrom : MethodName := ⟨RX9, "settleFrom", "(II)V"⟩
abbrev cX9_nearestUnsettled : ByteArray := prog_11_method_15_code
def yX9_nearestUnsettled : MethodName := ⟨RX9, "nearestUnsettled", "(I)I"⟩
def RX10 : String := "AvalancheGallery"
def TX10 : u_T := fun k => match k with
  | 0 => ("AvalancheGallery", "now", "LAvalancheGallery$State;", true)
  | 1 => ("AvalancheGallery", "saved", "LAvalancheGallery$State;", true)
  | 2 => ("AvalancheGallery", "somethingSaved", "Z", false)
  | 3 => ("AvalancheGallery", "history", "LAvalancheGallery$History;", true)
  | 4 => ("AvalancheGallery", "ways", "LAvalancheGallery$Ways;", true)
  | 5 => ("AvalancheGallery", "sand", "LAvalancheGallery$Sand;", true)
  | 6 => ("AvalancheGallery", "lender", "LAvalancheGallery$Lender;", true)
  | 7 => ("AvalancheGallery", "script", "LAvalancheGallery$Script;", true)
  | 8 => ("AvalancheGallery", "output", "Ljava/lang/StringBuilder;", true)
  | 9 => ("AvalancheGallery", "keptReason", "I", false)
  | 10 => ("AvalancheGallery", "keptDetail", "I", false)
  | 11 => ("AvalancheGallery", "keptErrorPosition", "I", false)
  | _ => ("AvalancheGallery", "keptFailedCommand", "I", false)
def tyX10 : Nat → FieldType := fun k => match k with
  | 0 => .object "AvalancheGallery$State"
  | 1 => .object "AvalancheGallery$State"
  | 2 => .boolean
  | 3 => .object "AvalancheGallery$History"
  | 4 => .object "AvalancheGallery$Ways"
  | 5 => .object "AvalancheGallery$Sand"
  | 6 => .object "AvalancheGallery$Lender"
  | 7 => .object "AvalancheGallery$Script"
  | 8 => .object "java/lang/StringBuilder"
  | 9 => .int
  | 10 => .int
  | 11 => .int
  | _ => .int
abbrev wsX100 : List Cond := u_ws RX10 TX10 13
theorem nmX10 : ∀ a, a < 13 → ∀ b, b < 13 → a ≠ b → (TX10 a).2.1 ≠ (TX10 b).2.1 := by decide +kernel
theorem tyX10_ok : ∀ k, k < 13 → parseFieldDescriptor (TX10 k).2.2.1 = some (tyX10 k) := by decide +kernel
abbrev cX10_init : ByteArray := prog_1_method_1_code
def yX10_init : MethodName := ⟨RX10, "<init>", "()V"⟩
abbrev cX10_addRoom : ByteArray := prog_1_method_2_code
def yX10_addRoom : MethodName := ⟨RX10, "addRoom", "(I)I"⟩
abbrev cX10_setWarmth : ByteArray := prog_1_method_3_code
def yX10_setWarmth : MethodName := ⟨RX10, "setWarmth", "(II)I"⟩
abbrev cX10_setLeg : ByteArray := prog_1_method_4_code
def yX10_setLeg : MethodName := ⟨RX10, "setLeg", "(IIII)I"⟩
abbrev cX10_removeLeg : ByteArray := prog_1_method_5_code
def yX10_removeLeg : MethodName := ⟨RX10, "removeLeg", "(II)I"⟩
abbrev cX10_roomCount : ByteArray := prog_1_method_6_code
def yX10_roomCount : MethodName := ⟨RX10, "roomCount", "()I"⟩
abbrev cX10_warmth : ByteArray := prog_1_method_7_code
def yX10_warmth : MethodName := ⟨RX10, "warmth", "(I)I"⟩
abbrev cX10_legMinutes : ByteArray := prog_1_method_8_code
def yX10_legMinutes : MethodName := ⟨RX10, "legMinutes", "(II)I"⟩
abbrev cX10_legWarmth : ByteArray := prog_1_method_9_code
def yX10_legWarmth : MethodName := ⟨RX10, "legWarmth", "(II)I"⟩
abbrev cX10_minutes : ByteArray := prog_1_method_10_code
def yX10_minutes : MethodName := ⟨RX10, "minutes", "(II)I"⟩
abbrev cX10_minutesByTable : ByteArray := prog_1_method_11_code
def yX10_minutesByTable : MethodName := ⟨RX10, "minutesByTable", "(II)I"⟩
abbrev cX10_wayLegs : ByteArray := prog_1_method_12_code
def yX10_wayLegs : MethodName := ⟨RX10, "wayLegs", "(II)I"⟩
abbrev cX10_wayRoom : ByteArray := prog_1_method_13_code
def yX10_wayRoom : MethodName := ⟨RX10, "wayRoom", "(III)I"⟩
abbrev cX10_addExhibit : ByteArray := prog_1_method_14_code
def yX10_addExhibit : MethodName := ⟨RX10, "addExhibit", "(II)I"⟩
abbrev cX10_setLimit : ByteArray := prog_1_method_15_code
def yX10_setLimit : MethodName := ⟨RX10, "setLimit", "(II)I"⟩
abbrev cX10_drop : ByteArray := prog_1_method_16_code
def yX10_drop : MethodName := ⟨RX10, "drop", "(IIII)I"⟩
abbrev cX10_topplingsIf : ByteArray := prog_1_method_17_code
def yX10_topplingsIf : MethodName := ⟨RX10, "topplingsIf", "(IIII)I"⟩
abbrev cX10_topplingsIfByRounds : ByteArray := prog_1_method_18_code
def yX10_topplingsIfByRounds : MethodName := ⟨RX10, "topplingsIfByRounds", "(IIII)I"⟩
abbrev cX10_exhibitCount : ByteArray := prog_1_method_19_code
def yX10_exhibitCount : MethodName := ⟨RX10, "exhibitCount", "()I"⟩
abbrev cX10_roomOf : ByteArray := prog_1_method_20_code
def yX10_roomOf : MethodName := ⟨RX10, "roomOf", "(I)I"⟩
abbrev cX10_limit : ByteArray := prog_1_method_21_code
def yX10_limit : MethodName := ⟨RX10, "limit", "(I)I"⟩
abbrev cX10_grainsAt : ByteArray := prog_1_method_22_code
def yX10_grainsAt : MethodName := ⟨RX10, "grainsAt", "(III)I"⟩
abbrev cX10_grains : ByteArray := prog_1_method_23_code
def yX10_grains : MethodName := ⟨RX10, "grains", "(I)I"⟩
abbrev cX10_lasts : ByteArray := prog_1_method_24_code
def yX10_lasts : MethodName := ⟨RX10, "lasts", "(I)Z"⟩
abbrev cX10_lastsByToppling : ByteArray := prog_1_method_25_code
def yX10_lastsByToppling : MethodName := ⟨RX10, "lastsByToppling", "(I)Z"⟩
abbrev cX10_longestSlope : ByteArray := prog_1_method_26_code
def yX10_longestSlope : MethodName := ⟨RX10, "longestSlope", "(I)I"⟩
abbrev cX10_longestSlopeByGrains : ByteArray := prog_1_method_27_code
def yX10_longestSlopeByGrains : MethodName := ⟨RX10, "longestSlopeByGrains", "(I)I"⟩
abbrev cX10_dropped : ByteArray := prog_1_method_28_code
def yX10_dropped : MethodName := ⟨RX10, "dropped", "(I)I"⟩
abbrev cX10_spilled : ByteArray := prog_1_method_29_code
def yX10_spilled : MethodName := ⟨RX10, "spilled", "(I)I"⟩
abbrev cX10_melted : ByteArray := prog_1_method_30_code
def yX10_melted : MethodName := ⟨RX10, "melted", "(I)I"⟩
abbrev cX10_send : ByteArray := prog_1_method_31_code
def yX10_send : MethodName := ⟨RX10, "send", "(II)I"⟩
abbrev cX10_meltIfSent : ByteArray := prog_1_method_32_code
def yX10_meltIfSent : MethodName := ⟨RX10, "meltIfSent", "(II)I"⟩
abbrev cX10_leastPassed : ByteArray := prog_1_method_33_code
def yX10_leastPassed : MethodName := ⟨RX10, "leastPassed", "(II)I"⟩
abbrev cX10_leastPassedByRounds : ByteArray := prog_1_method_34_code
def yX10_leastPassedByRounds : MethodName := ⟨RX10, "leastPassedByRounds", "(II)I"⟩
abbrev cX10_passDays : ByteArray := prog_1_method_35_code
def yX10_passDays : MethodName := ⟨RX10, "passDays", "(I)I"⟩
abbrev cX10_day : ByteArray := prog_1_method_36_code
def yX10_day : MethodName := ⟨RX10, "day", "()I"⟩
abbrev cX10_ask : ByteArray := prog_1_method_37_code
def yX10_ask : MethodName := ⟨RX10, "ask", "(IIII)I"⟩
abbrev cX10_takeBest : ByteArray := prog_1_method_38_code
def yX10_takeBest : MethodName := ⟨RX10, "takeBest", "(I)I"⟩
abbrev cX10_askedCount : ByteArray := prog_1_method_39_code
def yX10_askedCount : MethodName := ⟨RX10, "askedCount", "(I)I"⟩
abbrev cX10_takenCount : ByteArray := prog_1_method_40_code
def yX10_takenCount : MethodName := ⟨RX10, "takenCount", "(I)I"⟩
abbrev cX10_bestFees : ByteArray := prog_1_method_41_code
def yX10_bestFees : MethodName := ⟨RX10, "bestFees", "(I)I"⟩
abbrev cX10_bestFeesByTrials : ByteArray := prog_1_method_42_code
def yX10_bestFeesByTrials : MethodName := ⟨RX10, "bestFeesByTrials", "(I)I"⟩
abbrev cX10_isLent : ByteArray := prog_1_method_43_code
def yX10_isLent : MethodName := ⟨RX10, "isLent", "(II)Z"⟩
abbrev cX10_income : ByteArray := prog_1_method_44_code
def yX10_income : MethodName := ⟨RX10, "income", "()I"⟩
abbrev cX10_meanGrains : ByteArray := prog_1_method_47_code
def yX10_meanGrains : MethodName := ⟨RX10, "meanGrains", "()D"⟩
abbrev cX10_lentFraction : ByteArray := prog_1_method_48_code
def yX10_lentFraction : MethodName := ⟨RX10, "lentFraction", "()F"⟩
abbrev cX10_writePile : ByteArray := prog_1_method_49_code
def yX10_writePile : MethodName := ⟨RX10, "writePile", "(I)I"⟩
abbrev cX10_writeWay : ByteArray := prog_1_method_50_code
def yX10_writeWay : MethodName := ⟨RX10, "writeWay", "(II)I"⟩
abbrev cX10_outputCharacter : ByteArray := prog_1_method_51_code
def yX10_outputCharacter : MethodName := ⟨RX10, "outputCharacter", "(I)C"⟩
abbrev cX10_isConsistent : ByteArray := prog_1_method_52_code
def yX10_isConsistent : MethodName := ⟨RX10, "isConsistent", "()Z"⟩
abbrev cX10_feed : ByteArray := prog_1_method_53_code
def yX10_feed : MethodName := ⟨RX10, "feed", "(C)I"⟩
abbrev cX10_execute : ByteArray := prog_1_method_54_code
def yX10_execute : MethodName := ⟨RX10, "execute", "()I"⟩
abbrev cX10_undo : ByteArray := prog_1_method_57_code
def yX10_undo : MethodName := ⟨RX10, "undo", "()I"⟩
abbrev cX10_remember : ByteArray := prog_1_method_61_code
def yX10_remember : MethodName := ⟨RX10, "remember", "()V"⟩
abbrev cX10_stopIf : ByteArray := prog_1_method_62_code
def yX10_stopIf : MethodName := ⟨RX10, "stopIf", "(LAvalancheGallery$Fault;)V"⟩
abbrev cX10_presentOnly : ByteArray := prog_1_method_63_code
def yX10_presentOnly : MethodName := ⟨RX10, "presentOnly", "(I)I"⟩
abbrev cX10_existing : ByteArray := prog_1_method_64_code
def yX10_existing : MethodName := ⟨RX10, "existing", "(I)LAvalancheGallery$Exhibit;"⟩
abbrev cX10_isFrom : ByteArray := prog_1_method_65_code
def yX10_isFrom : MethodName := ⟨RX10, "isFrom", "(III)Z"⟩
abbrev cX10_placeAt : ByteArray := prog_1_method_66_code
def yX10_placeAt : MethodName := ⟨RX10, "placeAt", "(II)I"⟩
abbrev cX10_passedBy : ByteArray := prog_1_method_67_code
def yX10_passedBy : MethodName := ⟨RX10, "passedBy", "(II)I"⟩
abbrev cX10_digitFault : ByteArray := prog_1_method_68_code
def yX10_digitFault : MethodName := ⟨RX10, "digitFault", "(I)LAvalancheGallery$Fault;"⟩
abbrev cX10_placeFault : ByteArray := prog_1_method_69_code
def yX10_placeFault : MethodName := ⟨RX10, "placeFault", "(II)LAvalancheGallery$Fault;"⟩
abbrev cX10_roomFault : ByteArray := prog_1_method_70_code
def yX10_roomFault : MethodName := ⟨RX10, "roomFault", "(I)LAvalancheGallery$Fault;"⟩
abbrev cX10_legFault : ByteArray := prog_1_method_71_code
def yX10_legFault : MethodName := ⟨RX10, "legFault", "(IIII)LAvalancheGallery$Fault;"⟩
abbrev cX10_missingLegFault : ByteArray := prog_1_method_72_code
def yX10_missingLegFault : MethodName := ⟨RX10, "missingLegFault", "(II)LAvalancheGallery$Fault;"⟩
abbrev cX10_wayFault : ByteArray := prog_1_method_73_code
def yX10_wayFault : MethodName := ⟨RX10, "wayFault", "(II)LAvalancheGallery$Fault;"⟩
abbrev cX10_pileFault : ByteArray := prog_1_method_74_code
def yX10_pileFault : MethodName := ⟨RX10, "pileFault", "(II)LAvalancheGallery$Fault;"⟩
abbrev cX10_dropFault : ByteArray := prog_1_method_75_code
def yX10_dropFault : MethodName := ⟨RX10, "dropFault", "(IIII)LAvalancheGallery$Fault;"⟩
abbrev cX10_journeyFault : ByteArray := prog_1_method_76_code
def yX10_journeyFault : MethodName := ⟨RX10, "journeyFault", "(II)LAvalancheGallery$Fault;"⟩
abbrev cX10_sendFault : ByteArray := prog_1_method_77_code
def yX10_sendFault : MethodName := ⟨RX10, "sendFault", "(II)LAvalancheGallery$Fault;"⟩
abbrev cX10_refused : ByteArray := prog_1_method_78_code
def yX10_refused : MethodName := ⟨RX10, "refused", "(II)LAvalancheGallery$Fault;"⟩
abbrev cX10_daysFault : ByteArray := prog_1_method_80_code
def yX10_daysFault : MethodName := ⟨RX10, "daysFault", "(I)LAvalancheGallery$Fault;"⟩
abbrev cX10_askFault : ByteArray := prog_1_method_81_code
def yX10_askFault : MethodName := ⟨RX10, "askFault", "(IIII)LAvalancheGallery$Fault;"⟩
abbrev cX10_takeFault : ByteArray := prog_1_method_82_code
def yX10_takeFault : MethodName := ⟨RX10, "takeFault", "(I)LAvalancheGallery$Fault;"⟩
abbrev cX10_carry : ByteArray := prog_1_method_83_code
def yX10_carry : MethodName := ⟨RX10, "carry", "(LAvalancheGallery$Exhibit;I)I"⟩
abbrev cX10_passedOnWay : ByteArray := prog_1_method_84_code
def yX10_passedOnWay : MethodName := ⟨RX10, "passedOnWay", "(I)I"⟩
abbrev cX10_pileAgrees : ByteArray := prog_1_method_85_code
def yX10_pileAgrees : MethodName := ⟨RX10, "pileAgrees", "(LAvalancheGallery$Exhibit;)Z"⟩
abbrev cX10_leastPassedAgrees : ByteArray := prog_1_method_86_code
def yX10_leastPassedAgrees : MethodName := ⟨RX10, "leastPassedAgrees", "(LAvalancheGallery$Exhibit;)Z"⟩
abbrev cX10_minutesAgree : ByteArray := prog_1_method_87_code
def yX10_minutesAgree : MethodName := ⟨RX10, "minutesAgree", "()Z"⟩
abbrev cX10_runCommands : ByteArray := prog_1_method_88_code
def yX10_runCommands : MethodName := ⟨RX10, "runCommands", "()I"⟩
abbrev cX10_commandFault : ByteArray := prog_1_method_89_code
def yX10_commandFault : MethodName := ⟨RX10, "commandFault", "(LAvalancheGallery$Form;[I)LAvalancheGallery$Fault;"⟩
abbrev cX10_runCommand : ByteArray := prog_1_method_90_code
def yX10_runCommand : MethodName := ⟨RX10, "runCommand", "(LAvalancheGallery$Form;[I)V"⟩
def RX11 : String := "AvalancheGalleryModel"
def TX11 : u_T := fun k => match k with
  | _ => ("", "", "", false)
def tyX11 : Nat → FieldType := fun k => match k with
  | _ => .int
abbrev wsX110 : List Cond := u_ws RX11 TX11 0
theorem nmX11 : ∀ a, a < 0 → ∀ b, b < 0 → a ≠ b → (TX11 a).2.1 ≠ (TX11 b).2.1 := by decide +kernel
theorem tyX11_ok : ∀ k, k < 0 → parseFieldDescriptor (TX11 k).2.2.1 = some (tyX11 k) := by decide +kernel
def RJx145de : String := "java/io/Serializable"
def TJx145de : u_T := fun k => match k with
  | _ => ("", "", "", false)
def tyJx145de : Nat → FieldType := fun k => match k with
  | _ => .int
abbrev wsJx145de0 : List Cond := u_ws RJx145de TJx145de 0
theorem nmJx145de : ∀ a, a < 0 → ∀ b, b < 0 → a ≠ b → (TJx145de a).2.1 ≠ (TJx145de b).2.1 := by decide +kernel
theorem tyJx145de_ok : ∀ k, k < 0 → parseFieldDescriptor (TJx145de k).2.2.1 = some (tyJx145de k) := by decide +kernel
def RJ5 : String := "java/lang/AbstractStringBuilder"
def TJ5 : u_T := fun k => match k with
  | _ => ("", "", "", false)
def tyJ5 : Nat → FieldType := fun k => match k with
  | _ => .int
abbrev wsJ50 : List Cond := u_ws RJ5 TJ5 0
theorem nmJ5 : ∀ a, a < 0 → ∀ b, b < 0 → a ≠ b → (TJ5 a).2.1 ≠ (TJ5 b).2.1 := by decide +kernel
theorem tyJ5_ok : ∀ k, k < 0 → parseFieldDescriptor (TJ5 k).2.2.1 = some (tyJ5 k) := by decide +kernel
abbrev cJ5_init_d00df : ByteArray := prog_15_method_2_code
def yJ5_init_d00df : MethodName := ⟨RJ5, "<init>", "(I)V"⟩
abbrev cJ5_length_8abf5 : ByteArray := prog_15_method_6_code
def yJ5_length_8abf5 : MethodName := ⟨RJ5, "length", "()I"⟩
abbrev cJ5_ensureCapacityInternal_d00df : ByteArray := prog_15_method_9_code
def yJ5_ensureCapacityInternal_d00df : MethodName := ⟨RJ5, "ensureCapacityInternal", "(I)V"⟩
abbrev cJ5_newCapacity_0f7a4 : ByteArray := prog_15_method_10_code
def yJ5_newCapacity_0f7a4 : MethodName := ⟨RJ5, "newCapacity", "(I)I"⟩
abbrev cJ5_inflate_da8c8 : ByteArray := prog_15_method_11_code
def yJ5_inflate_da8c8 : MethodName := ⟨RJ5, "inflate", "()V"⟩
abbrev cJ5_setLength_d00df : ByteArray := prog_15_method_13_code
def yJ5_setLength_d00df : MethodName := ⟨RJ5, "setLength", "(I)V"⟩
abbrev cJ5_charAt_5068e : ByteArray := prog_15_method_14_code
def yJ5_charAt_5068e : MethodName := ⟨RJ5, "charAt", "(I)C"⟩
abbrev cJ5_append_cf1ce : ByteArray := prog_15_method_22_code
def yJ5_append_cf1ce : MethodName := ⟨RJ5, "append", "(Ljava/lang/String;)Ljava/lang/AbstractStringBuilder;"⟩
abbrev cJ5_appendNull_278bc : ByteArray := prog_15_method_26_code
def yJ5_appendNull_278bc : MethodName := ⟨RJ5, "appendNull", "()Ljava/lang/AbstractStringBuilder;"⟩
abbrev cJ5_append_3fe6f : ByteArray := prog_15_method_31_code
def yJ5_append_3fe6f : MethodName := ⟨RJ5, "append", "(C)Ljava/lang/AbstractStringBuilder;"⟩
abbrev cJ5_append_c97b9 : ByteArray := prog_15_method_32_code
def yJ5_append_c97b9 : MethodName := ⟨RJ5, "append", "(I)Ljava/lang/AbstractStringBuilder;"⟩
abbrev cJ5_getValue_6d5f1 : ByteArray := prog_15_method_64_code
def yJ5_getValue_6d5f1 : MethodName := ⟨RJ5, "getValue", "()[B"⟩
abbrev cJ5_isLatin1_aae02 : ByteArray := prog_15_method_68_code
def yJ5_isLatin1_aae02 : MethodName := ⟨RJ5, "isLatin1", "()Z"⟩
abbrev cJ5_inflateIfNeededFor_a7421 : ByteArray := prog_15_method_71_code
def yJ5_inflateIfNeededFor_a7421 : MethodName := ⟨RJ5, "inflateIfNeededFor", "(Ljava/lang/String;)V"⟩
abbrev cJ5_putStringAt_47b60 : ByteArray := prog_15_method_73_code
def yJ5_putStringAt_47b60 : MethodName := ⟨RJ5, "putStringAt", "(ILjava/lang/String;)V"⟩
def RJx2cfe8 : String := "java/lang/Appendable"
def TJx2cfe8 : u_T := fun k => match k with
  | _ => ("", "", "", false)
def tyJx2cfe8 : Nat → FieldType := fun k => match k with
  | _ => .int
abbrev wsJx2cfe80 : List Cond := u_ws RJx2cfe8 TJx2cfe8 0
theorem nmJx2cfe8 : ∀ a, a < 0 → ∀ b, b < 0 → a ≠ b → (TJx2cfe8 a).2.1 ≠ (TJx2cfe8 b).2.1 := by decide +kernel
theorem tyJx2cfe8_ok : ∀ k, k < 0 → parseFieldDescriptor (TJx2cfe8 k).2.2.1 = some (tyJx2cfe8 k) := by decide +kernel
def RJx00060 : String := "java/lang/ArrayIndexOutOfBoundsException"
def TJx00060 : u_T := fun k => match k with
  | 0 => ("java/lang/Throwable", "backtrace", "Ljava/lang/Object;", false)
  | 1 => ("java/lang/Throwable", "detailMessage", "Ljava/lang/String;", false)
  | 2 => ("java/lang/Throwable", "cause", "Ljava/lang/Throwable;", false)
  | 3 => ("java/lang/Throwable", "stackTrace", "[Ljava/lang/StackTraceElement;", false)
  | 4 => ("java/lang/Throwable", "depth", "I", false)
  | _ => ("java/lang/Throwable", "suppressedExceptions", "Ljava/util/List;", false)
def tyJx00060 : Nat → FieldType := fun k => match k with
  | 0 => .object "java/lang/Object"
  | 1 => .object "java/lang/String"
  | 2 => .object "java/lang/Throwable"
  | 3 => .array (.object "java/lang/StackTraceElement")
  | 4 => .int
  | _ => .object "java/util/List"
abbrev wsJx000600 : List Cond := u_ws RJx00060 TJx00060 6
theorem nmJx00060 : ∀ a, a < 6 → ∀ b, b < 6 → a ≠ b → (TJx00060 a).2.1 ≠ (TJx00060 b).2.1 := by decide +kernel
theorem tyJx00060_ok : ∀ k, k < 6 → parseFieldDescriptor (TJx00060 k).2.2.1 = some (tyJx00060 k) := by decide +kernel
abbrev cJx00060_init_a7421 : ByteArray := prog_18_method_2_code
def yJx00060_init_a7421 : MethodName := ⟨RJx00060, "<init>", "(Ljava/lang/String;)V"⟩
abbrev cJx00060_init_d00df : ByteArray := prog_18_method_3_code
def yJx00060_init_d00df : MethodName := ⟨RJx00060, "<init>", "(I)V"⟩
def RJx9f9b0 : String := "java/lang/CharSequence"
def TJx9f9b0 : u_T := fun k => match k with
  | _ => ("", "", "", false)
def tyJx9f9b0 : Nat → FieldType := fun k => match k with
  | _ => .int
abbrev wsJx9f9b00 : List Cond := u_ws RJx9f9b0 TJx9f9b0 0
theorem nmJx9f9b0 : ∀ a, a < 0 → ∀ b, b < 0 → a ≠ b → (TJx9f9b0 a).2.1 ≠ (TJx9f9b0 b).2.1 := by decide +kernel
theorem tyJx9f9b0_ok : ∀ k, k < 0 → parseFieldDescriptor (TJx9f9b0 k).2.2.1 = some (tyJx9f9b0 k) := by decide +kernel
def RJx8e188 : String := "java/lang/Cloneable"
def TJx8e188 : u_T := fun k => match k with
  | _ => ("", "", "", false)
def tyJx8e188 : Nat → FieldType := fun k => match k with
  | _ => .int
abbrev wsJx8e1880 : List Cond := u_ws RJx8e188 TJx8e188 0
theorem nmJx8e188 : ∀ a, a < 0 → ∀ b, b < 0 → a ≠ b → (TJx8e188 a).2.1 ≠ (TJx8e188 b).2.1 := by decide +kernel
theorem tyJx8e188_ok : ∀ k, k < 0 → parseFieldDescriptor (TJx8e188 k).2.2.1 = some (tyJx8e188 k) := by decide +kernel
def RJxb160c : String := "java/lang/Comparable"
def TJxb160c : u_T := fun k => match k with
  | _ => ("", "", "", false)
def tyJxb160c : Nat → FieldType := fun k => match k with
  | _ => .int
abbrev wsJxb160c0 : List Cond := u_ws RJxb160c TJxb160c 0
theorem nmJxb160c : ∀ a, a < 0 → ∀ b, b < 0 → a ≠ b → (TJxb160c a).2.1 ≠ (TJxb160c b).2.1 := by decide +kernel
theorem tyJxb160c_ok : ∀ k, k < 0 → parseFieldDescriptor (TJxb160c k).2.2.1 = some (tyJxb160c k) := by decide +kernel
def RJx29ce0 : String := "java/lang/Enum"
def TJx29ce0 : u_T := fun k => match k with
  | _ => ("", "", "", false)
def tyJx29ce0 : Nat → FieldType := fun k => match k with
  | _ => .int
abbrev wsJx29ce00 : List Cond := u_ws RJx29ce0 TJx29ce0 0
theorem nmJx29ce0 : ∀ a, a < 0 → ∀ b, b < 0 → a ≠ b → (TJx29ce0 a).2.1 ≠ (TJx29ce0 b).2.1 := by decide +kernel
theorem tyJx29ce0_ok : ∀ k, k < 0 → parseFieldDescriptor (TJx29ce0 k).2.2.1 = some (tyJx29ce0 k) := by decide +kernel
abbrev cJx29ce0_ordinal_8abf5 : ByteArray := prog_22_method_2_code
def yJx29ce0_ordinal_8abf5 : MethodName := ⟨RJx29ce0, "ordinal", "()I"⟩
def RJ6 : String := "java/lang/Integer"
def TJ6 : u_T := fun k => match k with
  | _ => ("", "", "", false)
def tyJ6 : Nat → FieldType := fun k => match k with
  | _ => .int
abbrev wsJ60 : List Cond := u_ws RJ6 TJ6 0
theorem nmJ6 : ∀ a, a < 0 → ∀ b, b < 0 → a ≠ b → (TJ6 a).2.1 ≠ (TJ6 b).2.1 := by decide +kernel
theorem tyJ6_ok : ∀ k, k < 0 → parseFieldDescriptor (TJ6 k).2.2.1 = some (tyJ6 k) := by decide +kernel
abbrev cJ6_getChars_ba4f3 : ByteArray := prog_27_method_12_code
def yJ6_getChars_ba4f3 : MethodName := ⟨RJ6, "getChars", "(II[B)I"⟩
abbrev cJ6_stringSize_0f7a4 : ByteArray := prog_27_method_13_code
def yJ6_stringSize_0f7a4 : MethodName := ⟨RJ6, "stringSize", "(I)I"⟩
abbrev cJ6_bitCount_0f7a4 : ByteArray := prog_27_method_49_code
def yJ6_bitCount_0f7a4 : MethodName := ⟨RJ6, "bitCount", "(I)I"⟩
def RJ9 : String := "java/lang/Math"
def TJ9 : u_T := fun k => match k with
  | _ => ("", "", "", false)
def tyJ9 : Nat → FieldType := fun k => match k with
  | _ => .int
abbrev wsJ90 : List Cond := u_ws RJ9 TJ9 0
theorem nmJ9 : ∀ a, a < 0 → ∀ b, b < 0 → a ≠ b → (TJ9 a).2.1 ≠ (TJ9 b).2.1 := by decide +kernel
theorem tyJ9_ok : ∀ k, k < 0 → parseFieldDescriptor (TJ9 k).2.2.1 = some (tyJ9 k) := by decide +kernel
abbrev cJ9_max_7cf53 : ByteArray := prog_28_method_65_code
def yJ9_max_7cf53 : MethodName := ⟨RJ9, "max", "(II)I"⟩
abbrev cJ9_min_7cf53 : ByteArray := prog_28_method_69_code
def yJ9_min_7cf53 : MethodName := ⟨RJ9, "min", "(II)I"⟩
def RJxd2413 : String := "java/lang/Number"
def TJxd2413 : u_T := fun k => match k with
  | _ => ("", "", "", false)
def tyJxd2413 : Nat → FieldType := fun k => match k with
  | _ => .int
abbrev wsJxd24130 : List Cond := u_ws RJxd2413 TJxd2413 0
theorem nmJxd2413 : ∀ a, a < 0 → ∀ b, b < 0 → a ≠ b → (TJxd2413 a).2.1 ≠ (TJxd2413 b).2.1 := by decide +kernel
theorem tyJxd2413_ok : ∀ k, k < 0 → parseFieldDescriptor (TJxd2413 k).2.2.1 = some (tyJxd2413 k) := by decide +kernel
def RJ0 : String := "java/lang/String"
def TJ0 : u_T := fun k => match k with
  | 0 => ("java/lang/String", "value", "[B", true)
  | 1 => ("java/lang/String", "coder", "B", true)
  | 2 => ("java/lang/String", "hash", "I", false)
  | _ => ("java/lang/String", "hashIsZero", "Z", false)
def tyJ0 : Nat → FieldType := fun k => match k with
  | 0 => .array .byte
  | 1 => .byte
  | 2 => .int
  | _ => .boolean
abbrev wsJ00 : List Cond := u_ws RJ0 TJ0 4
theorem nmJ0 : ∀ a, a < 4 → ∀ b, b < 4 → a ≠ b → (TJ0 a).2.1 ≠ (TJ0 b).2.1 := by decide +kernel
theorem tyJ0_ok : ∀ k, k < 4 → parseFieldDescriptor (TJ0 k).2.2.1 = some (tyJ0 k) := by decide +kernel
abbrev cJ0_init_81219 : ByteArray := prog_31_method_53_code
def yJ0_init_81219 : MethodName := ⟨RJ0, "<init>", "(Ljava/lang/StringBuilder;)V"⟩
abbrev cJ0_length_8abf5 : ByteArray := prog_31_method_54_code
def yJ0_length_8abf5 : MethodName := ⟨RJ0, "length", "()I"⟩
abbrev cJ0_charAt_5068e : ByteArray := prog_31_method_56_code
def yJ0_charAt_5068e : MethodName := ⟨RJ0, "charAt", "(I)C"⟩
abbrev cJ0_getBytes_840e7 : ByteArray := prog_31_method_147_code
def yJ0_getBytes_840e7 : MethodName := ⟨RJ0, "getBytes", "([BIB)V"⟩
abbrev cJ0_init_db425 : ByteArray := prog_31_method_150_code
def yJ0_init_db425 : MethodName := ⟨RJ0, "<init>", "(Ljava/lang/AbstractStringBuilder;Ljava/lang/Void;)V"⟩
abbrev cJ0_coder_7d493 : ByteArray := prog_31_method_152_code
def yJ0_coder_7d493 : MethodName := ⟨RJ0, "coder", "()B"⟩
abbrev cJ0_isLatin1_aae02 : ByteArray := prog_31_method_154_code
def yJ0_isLatin1_aae02 : MethodName := ⟨RJ0, "isLatin1", "()Z"⟩
abbrev cJ0_checkIndex_df160 : ByteArray := prog_31_method_155_code
def yJ0_checkIndex_df160 : MethodName := ⟨RJ0, "checkIndex", "(II)V"⟩
abbrev cJ0_checkBoundsOffCount_cabcc : ByteArray := prog_31_method_157_code
def yJ0_checkBoundsOffCount_cabcc : MethodName := ⟨RJ0, "checkBoundsOffCount", "(III)I"⟩
abbrev cJ0_checkBoundsBeginEnd_23922 : ByteArray := prog_31_method_158_code
def yJ0_checkBoundsBeginEnd_23922 : MethodName := ⟨RJ0, "checkBoundsBeginEnd", "(III)V"⟩
def RJ4 : String := "java/lang/StringBuilder"
def TJ4 : u_T := fun k => match k with
  | 0 => ("java/lang/AbstractStringBuilder", "value", "[B", false)
  | 1 => ("java/lang/AbstractStringBuilder", "coder", "B", false)
  | 2 => ("java/lang/AbstractStringBuilder", "maybeLatin1", "Z", false)
  | _ => ("java/lang/AbstractStringBuilder", "count", "I", false)
def tyJ4 : Nat → FieldType := fun k => match k with
  | 0 => .array .byte
  | 1 => .byte
  | 2 => .boolean
  | _ => .int
abbrev wsJ40 : List Cond := u_ws RJ4 TJ4 4
theorem nmJ4 : ∀ a, a < 4 → ∀ b, b < 4 → a ≠ b → (TJ4 a).2.1 ≠ (TJ4 b).2.1 := by decide +kernel
theorem tyJ4_ok : ∀ k, k < 4 → parseFieldDescriptor (TJ4 k).2.2.1 = some (tyJ4 k) := by decide +kernel
abbrev cJ4_init_da8c8 : ByteArray := prog_32_method_1_code
def yJ4_init_da8c8 : MethodName := ⟨RJ4, "<init>", "()V"⟩
abbrev cJ4_append_15ec4 : ByteArray := prog_32_method_7_code
def yJ4_append_15ec4 : MethodName := ⟨RJ4, "append", "(Ljava/lang/String;)Ljava/lang/StringBuilder;"⟩
abbrev cJ4_append_cf468 : ByteArray := prog_32_method_14_code
def yJ4_append_cf468 : MethodName := ⟨RJ4, "append", "(C)Ljava/lang/StringBuilder;"⟩
abbrev cJ4_append_bf812 : ByteArray := prog_32_method_15_code
def yJ4_append_bf812 : MethodName := ⟨RJ4, "append", "(I)Ljava/lang/StringBuilder;"⟩
abbrev cJ4_toString_0e30d : ByteArray := prog_32_method_42_code
def yJ4_toString_0e30d : MethodName := ⟨RJ4, "toString", "()Ljava/lang/String;"⟩
abbrev cJ4_charAt_5068e : ByteArray := prog_32_method_88_code
def yJ4_charAt_5068e : MethodName := ⟨RJ4, "charAt", "(I)C"⟩
abbrev cJ4_setLength_d00df : ByteArray := prog_32_method_89_code
def yJ4_setLength_d00df : MethodName := ⟨RJ4, "setLength", "(I)V"⟩
abbrev cJ4_length_8abf5 : ByteArray := prog_32_method_93_code
def yJ4_length_8abf5 : MethodName := ⟨RJ4, "length", "()I"⟩
def RJx7c733 : String := "java/lang/StringIndexOutOfBoundsException"
def TJx7c733 : u_T := fun k => match k with
  | 0 => ("java/lang/Throwable", "backtrace", "Ljava/lang/Object;", false)
  | 1 => ("java/lang/Throwable", "detailMessage", "Ljava/lang/String;", false)
  | 2 => ("java/lang/Throwable", "cause", "Ljava/lang/Throwable;", false)
  | 3 => ("java/lang/Throwable", "stackTrace", "[Ljava/lang/StackTraceElement;", false)
  | 4 => ("java/lang/Throwable", "depth", "I", false)
  | _ => ("java/lang/Throwable", "suppressedExceptions", "Ljava/util/List;", false)
def tyJx7c733 : Nat → FieldType := fun k => match k with
  | 0 => .object "java/lang/Object"
  | 1 => .object "java/lang/String"
  | 2 => .object "java/lang/Throwable"
  | 3 => .array (.object "java/lang/StackTraceElement")
  | 4 => .int
  | _ => .object "java/util/List"
abbrev wsJx7c7330 : List Cond := u_ws RJx7c733 TJx7c733 6
theorem nmJx7c733 : ∀ a, a < 6 → ∀ b, b < 6 → a ≠ b → (TJx7c733 a).2.1 ≠ (TJx7c733 b).2.1 := by decide +kernel
theorem tyJx7c733_ok : ∀ k, k < 6 → parseFieldDescriptor (TJx7c733 k).2.2.1 = some (tyJx7c733 k) := by decide +kernel
abbrev cJx7c733_init_d00df : ByteArray := prog_33_method_3_code
def yJx7c733_init_d00df : MethodName := ⟨RJx7c733, "<init>", "(I)V"⟩
def RJ1 : String := "java/lang/StringLatin1"
def TJ1 : u_T := fun k => match k with
  | _ => ("", "", "", false)
def tyJ1 : Nat → FieldType := fun k => match k with
  | _ => .int
abbrev wsJ10 : List Cond := u_ws RJ1 TJ1 0
theorem nmJ1 : ∀ a, a < 0 → ∀ b, b < 0 → a ≠ b → (TJ1 a).2.1 ≠ (TJ1 b).2.1 := by decide +kernel
theorem tyJ1_ok : ∀ k, k < 0 → parseFieldDescriptor (TJ1 k).2.2.1 = some (tyJ1 k) := by decide +kernel
abbrev cJ1_charAt_3b067 : ByteArray := prog_34_method_2_code
def yJ1_charAt_3b067 : MethodName := ⟨RJ1, "charAt", "([BI)C"⟩
abbrev cJ1_canEncode_fc78d : ByteArray := prog_34_method_3_code
def yJ1_canEncode_fc78d : MethodName := ⟨RJ1, "canEncode", "(C)Z"⟩
abbrev cJ1_fillNull_b72d1 : ByteArray := prog_34_method_48_code
def yJ1_fillNull_b72d1 : MethodName := ⟨RJ1, "fillNull", "([BII)V"⟩
abbrev cJ1_inflate_0e8fd : ByteArray := prog_34_method_50_code
def yJ1_inflate_0e8fd : MethodName := ⟨RJ1, "inflate", "([BI[BII)V"⟩
def RJ2 : String := "java/lang/StringUTF16"
def TJ2 : u_T := fun k => match k with
  | _ => ("", "", "", false)
def tyJ2 : Nat → FieldType := fun k => match k with
  | _ => .int
abbrev wsJ20 : List Cond := u_ws RJ2 TJ2 0
theorem nmJ2 : ∀ a, a < 0 → ∀ b, b < 0 → a ≠ b → (TJ2 a).2.1 ≠ (TJ2 b).2.1 := by decide +kernel
theorem tyJ2_ok : ∀ k, k < 0 → parseFieldDescriptor (TJ2 k).2.2.1 = some (tyJ2 k) := by decide +kernel
abbrev cJ2_newBytesFor_77867 : ByteArray := prog_35_method_2_code
def yJ2_newBytesFor_77867 : MethodName := ⟨RJ2, "newBytesFor", "(I)[B"⟩
abbrev cJ2_newBytesLength_0f7a4 : ByteArray := prog_35_method_3_code
def yJ2_newBytesLength_0f7a4 : MethodName := ⟨RJ2, "newBytesLength", "(I)I"⟩
abbrev cJ2_putChar_b72d1 : ByteArray := prog_35_method_4_code
def yJ2_putChar_b72d1 : MethodName := ⟨RJ2, "putChar", "([BII)V"⟩
abbrev cJ2_getChar_3b067 : ByteArray := prog_35_method_5_code
def yJ2_getChar_3b067 : MethodName := ⟨RJ2, "getChar", "([BI)C"⟩
abbrev cJ2_length_9d52b : ByteArray := prog_35_method_6_code
def yJ2_length_9d52b : MethodName := ⟨RJ2, "length", "([B)I"⟩
abbrev cJ2_coderFromArrayLen_85cad : ByteArray := prog_35_method_15_code
def yJ2_coderFromArrayLen_85cad : MethodName := ⟨RJ2, "coderFromArrayLen", "([BI)B"⟩
abbrev cJ2_compress_39247 : ByteArray := prog_35_method_17_code
def yJ2_compress_39247 : MethodName := ⟨RJ2, "compress", "([BII)[B"⟩
abbrev cJ2_compress_5af95 : ByteArray := prog_35_method_22_code
def yJ2_compress_5af95 : MethodName := ⟨RJ2, "compress", "([BI[BII)I"⟩
abbrev cJ2_fillNull_b72d1 : ByteArray := prog_35_method_70_code
def yJ2_fillNull_b72d1 : MethodName := ⟨RJ2, "fillNull", "([BII)V"⟩
abbrev cJ2_putCharSB_b72d1 : ByteArray := prog_35_method_71_code
def yJ2_putCharSB_b72d1 : MethodName := ⟨RJ2, "putCharSB", "([BII)V"⟩
abbrev cJ2_getChars_46870 : ByteArray := prog_35_method_77_code
def yJ2_getChars_46870 : MethodName := ⟨RJ2, "getChars", "(III[B)I"⟩
abbrev cJ2_putCharsAt_cd4e5 : ByteArray := prog_35_method_81_code
def yJ2_putCharsAt_cd4e5 : MethodName := ⟨RJ2, "putCharsAt", "([BICCCC)I"⟩
abbrev cJ2_charAt_3b067 : ByteArray := prog_35_method_83_code
def yJ2_charAt_3b067 : MethodName := ⟨RJ2, "charAt", "([BI)C"⟩
abbrev cJ2_inflate_0e8fd : ByteArray := prog_35_method_86_code
def yJ2_inflate_0e8fd : MethodName := ⟨RJ2, "inflate", "([BI[BII)V"⟩
abbrev cJ2_getChars_ba4f3 : ByteArray := prog_35_method_89_code
def yJ2_getChars_ba4f3 : MethodName := ⟨RJ2, "getChars", "(II[B)I"⟩
abbrev cJ2_checkIndex_2214a : ByteArray := prog_35_method_91_code
def yJ2_checkIndex_2214a : MethodName := ⟨RJ2, "checkIndex", "(I[B)V"⟩
abbrev cJ2_checkBoundsBeginEnd_d044e : ByteArray := prog_35_method_93_code
def yJ2_checkBoundsBeginEnd_d044e : MethodName := ⟨RJ2, "checkBoundsBeginEnd", "(II[B)V"⟩
abbrev cJ2_checkBoundsOffCount_d044e : ByteArray := prog_35_method_94_code
def yJ2_checkBoundsOffCount_d044e : MethodName := ⟨RJ2, "checkBoundsOffCount", "(II[B)V"⟩
def RJ10 : String := "java/lang/System"
def TJ10 : u_T := fun k => match k with
  | _ => ("", "", "", false)
def tyJ10 : Nat → FieldType := fun k => match k with
  | _ => .int
abbrev wsJ100 : List Cond := u_ws RJ10 TJ10 0
theorem nmJ10 : ∀ a, a < 0 → ∀ b, b < 0 → a ≠ b → (TJ10 a).2.1 ≠ (TJ10 b).2.1 := by decide +kernel
theorem tyJ10_ok : ∀ k, k < 0 → parseFieldDescriptor (TJ10 k).2.2.1 = some (tyJ10 k) := by decide +kernel
def RJxfd54e : String := "java/lang/constant/Constable"
def TJxfd54e : u_T := fun k => match k with
  | _ => ("", "", "", false)
def tyJxfd54e : Nat → FieldType := fun k => match k with
  | _ => .int
abbrev wsJxfd54e0 : List Cond := u_ws RJxfd54e TJxfd54e 0
theorem nmJxfd54e : ∀ a, a < 0 → ∀ b, b < 0 → a ≠ b → (TJxfd54e a).2.1 ≠ (TJxfd54e b).2.1 := by decide +kernel
theorem tyJxfd54e_ok : ∀ k, k < 0 → parseFieldDescriptor (TJxfd54e k).2.2.1 = some (tyJxfd54e k) := by decide +kernel
def RJx3cf43 : String := "java/lang/constant/ConstantDesc"
def TJx3cf43 : u_T := fun k => match k with
  | _ => ("", "", "", false)
def tyJx3cf43 : Nat → FieldType := fun k => match k with
  | _ => .int
abbrev wsJx3cf430 : List Cond := u_ws RJx3cf43 TJx3cf43 0
theorem nmJx3cf43 : ∀ a, a < 0 → ∀ b, b < 0 → a ≠ b → (TJx3cf43 a).2.1 ≠ (TJx3cf43 b).2.1 := by decide +kernel
theorem tyJx3cf43_ok : ∀ k, k < 0 → parseFieldDescriptor (TJx3cf43 k).2.2.1 = some (tyJx3cf43 k) := by decide +kernel
def RJ7 : String := "java/util/Arrays"
def TJ7 : u_T := fun k => match k with
  | _ => ("", "", "", false)
def tyJ7 : Nat → FieldType := fun k => match k with
  | _ => .int
abbrev wsJ70 : List Cond := u_ws RJ7 TJ7 0
theorem nmJ7 : ∀ a, a < 0 → ∀ b, b < 0 → a ≠ b → (TJ7 a).2.1 ≠ (TJ7 b).2.1 := by decide +kernel
theorem tyJ7_ok : ∀ k, k < 0 → parseFieldDescriptor (TJ7 k).2.2.1 = some (tyJ7 k) := by decide +kernel
abbrev cJ7_rangeCheck_23922 : ByteArray := prog_41_method_30_code
def yJ7_rangeCheck_23922 : MethodName := ⟨RJ7, "rangeCheck", "(III)V"⟩
abbrev cJ7_fill_eb02e : ByteArray := prog_41_method_110_code
def yJ7_fill_eb02e : MethodName := ⟨RJ7, "fill", "([BIIB)V"⟩
abbrev cJ7_copyOf_9075b : ByteArray := prog_41_method_121_code
def yJ7_copyOf_9075b : MethodName := ⟨RJ7, "copyOf", "([BI)[B"⟩
abbrev cJ7_checkLength_df160 : ByteArray := prog_41_method_131_code
def yJ7_checkLength_df160 : MethodName := ⟨RJ7, "checkLength", "(II)V"⟩
abbrev cJ7_copyOfRange_39247 : ByteArray := prog_41_method_132_code
def yJ7_copyOfRange_39247 : MethodName := ⟨RJ7, "copyOfRange", "([BII)[B"⟩
abbrev cJ7_copyOfRangeByte_39247 : ByteArray := prog_41_method_133_code
def yJ7_copyOfRangeByte_39247 : MethodName := ⟨RJ7, "copyOfRangeByte", "([BII)[B"⟩
def RJ8 : String := "jdk/internal/util/ArraysSupport"
def TJ8 : u_T := fun k => match k with
  | _ => ("", "", "", false)
def tyJ8 : Nat → FieldType := fun k => match k with
  | _ => .int
abbrev wsJ80 : List Cond := u_ws RJ8 TJ8 0
theorem nmJ8 : ∀ a, a < 0 → ∀ b, b < 0 → a ≠ b → (TJ8 a).2.1 ≠ (TJ8 b).2.1 := by decide +kernel
theorem tyJ8_ok : ∀ k, k < 0 → parseFieldDescriptor (TJ8 k).2.2.1 = some (tyJ8 k) := by decide +kernel
abbrev cJ8_newLength_cabcc : ByteArray := prog_43_method_27_code
def yJ8_newLength_cabcc : MethodName := ⟨RJ8, "newLength", "(III)I"⟩
abbrev cJ8_hugeLength_7cf53 : ByteArray := prog_43_method_28_code
def yJ8_hugeLength_7cf53 : MethodName := ⟨RJ8, "hugeLength", "(II)I"⟩
def RJ3 : String := "jdk/internal/util/Preconditions"
def TJ3 : u_T := fun k => match k with
  | _ => ("", "", "", false)
def tyJ3 : Nat → FieldType := fun k => match k with
  | _ => .int
abbrev wsJ30 : List Cond := u_ws RJ3 TJ3 0
theorem nmJ3 : ∀ a, a < 0 → ∀ b, b < 0 → a ≠ b → (TJ3 a).2.1 ≠ (TJ3 b).2.1 := by decide +kernel
theorem tyJ3_ok : ∀ k, k < 0 → parseFieldDescriptor (TJ3 k).2.2.1 = some (tyJ3 k) := by decide +kernel
abbrev cJ3_checkIndex_8e157 : ByteArray := prog_44_method_11_code
def yJ3_checkIndex_8e157 : MethodName := ⟨RJ3, "checkIndex", "(IILjava/util/function/BiFunction;)I"⟩
abbrev cJ3_checkFromToIndex_8c36e : ByteArray := prog_44_method_12_code
def yJ3_checkFromToIndex_8c36e : MethodName := ⟨RJ3, "checkFromToIndex", "(IIILjava/util/function/BiFunction;)I"⟩
abbrev cJ3_checkFromIndexSize_8c36e : ByteArray := prog_44_method_13_code
def yJ3_checkFromIndexSize_8c36e : MethodName := ⟨RJ3, "checkFromIndexSize", "(IIILjava/util/function/BiFunction;)I"⟩
def RL : String := "AvalancheGalleryLaw"
abbrev cL_cell : ByteArray := method_2_code
def yL_cell : MethodName := ⟨RL, "cell", "([II)I"⟩
abbrev cL_addRoom : ByteArray := method_3_code
def yL_addRoom : MethodName := ⟨RL, "addRoom", "(LAvalancheGallery;I)I"⟩
abbrev cL_setWarmth : ByteArray := method_4_code
def yL_setWarmth : MethodName := ⟨RL, "setWarmth", "(LAvalancheGallery;II)I"⟩
abbrev cL_setLeg : ByteArray := method_5_code
def yL_setLeg : MethodName := ⟨RL, "setLeg", "(LAvalancheGallery;IIII)I"⟩
abbrev cL_removeLeg : ByteArray := method_6_code
def yL_removeLeg : MethodName := ⟨RL, "removeLeg", "(LAvalancheGallery;II)I"⟩
abbrev cL_warmth : ByteArray := method_7_code
def yL_warmth : MethodName := ⟨RL, "warmth", "(LAvalancheGallery;I)I"⟩
abbrev cL_legMinutes : ByteArray := method_8_code
def yL_legMinutes : MethodName := ⟨RL, "legMinutes", "(LAvalancheGallery;II)I"⟩
abbrev cL_legWarmth : ByteArray := method_9_code
def yL_legWarmth : MethodName := ⟨RL, "legWarmth", "(LAvalancheGallery;II)I"⟩
abbrev cL_minutes : ByteArray := method_10_code
def yL_minutes : MethodName := ⟨RL, "minutes", "(LAvalancheGallery;II)I"⟩
abbrev cL_byTable : ByteArray := method_11_code
def yL_byTable : MethodName := ⟨RL, "byTable", "(LAvalancheGallery;II)I"⟩
abbrev cL_wayLegs : ByteArray := method_12_code
def yL_wayLegs : MethodName := ⟨RL, "wayLegs", "(LAvalancheGallery;II)I"⟩
abbrev cL_wayRoom : ByteArray := method_13_code
def yL_wayRoom : MethodName := ⟨RL, "wayRoom", "(LAvalancheGallery;III)I"⟩
abbrev cL_addExhibit : ByteArray := method_14_code
def yL_addExhibit : MethodName := ⟨RL, "addExhibit", "(LAvalancheGallery;II)I"⟩
abbrev cL_setLimit : ByteArray := method_15_code
def yL_setLimit : MethodName := ⟨RL, "setLimit", "(LAvalancheGallery;II)I"⟩
abbrev cL_drop : ByteArray := method_16_code
def yL_drop : MethodName := ⟨RL, "drop", "(LAvalancheGallery;IIII)I"⟩
abbrev cL_topplings : ByteArray := method_17_code
def yL_topplings : MethodName := ⟨RL, "topplings", "(LAvalancheGallery;IIII)I"⟩
abbrev cL_byRounds : ByteArray := method_18_code
def yL_byRounds : MethodName := ⟨RL, "byRounds", "(LAvalancheGallery;IIII)I"⟩
abbrev cL_roomOf : ByteArray := method_19_code
def yL_roomOf : MethodName := ⟨RL, "roomOf", "(LAvalancheGallery;I)I"⟩
abbrev cL_limit : ByteArray := method_20_code
def yL_limit : MethodName := ⟨RL, "limit", "(LAvalancheGallery;I)I"⟩
abbrev cL_grainsAt : ByteArray := method_21_code
def yL_grainsAt : MethodName := ⟨RL, "grainsAt", "(LAvalancheGallery;III)I"⟩
abbrev cL_grains : ByteArray := method_22_code
def yL_grains : MethodName := ⟨RL, "grains", "(LAvalancheGallery;I)I"⟩
abbrev cL_lasts : ByteArray := method_23_code
def yL_lasts : MethodName := ⟨RL, "lasts", "(LAvalancheGallery;I)I"⟩
abbrev cL_byToppling : ByteArray := method_24_code
def yL_byToppling : MethodName := ⟨RL, "byToppling", "(LAvalancheGallery;I)I"⟩
abbrev cL_slope : ByteArray := method_25_code
def yL_slope : MethodName := ⟨RL, "slope", "(LAvalancheGallery;I)I"⟩
abbrev cL_slopeByGrains : ByteArray := method_26_code
def yL_slopeByGrains : MethodName := ⟨RL, "slopeByGrains", "(LAvalancheGallery;I)I"⟩
abbrev cL_dropped : ByteArray := method_27_code
def yL_dropped : MethodName := ⟨RL, "dropped", "(LAvalancheGallery;I)I"⟩
abbrev cL_spilled : ByteArray := method_28_code
def yL_spilled : MethodName := ⟨RL, "spilled", "(LAvalancheGallery;I)I"⟩
abbrev cL_melted : ByteArray := method_29_code
def yL_melted : MethodName := ⟨RL, "melted", "(LAvalancheGallery;I)I"⟩
abbrev cL_send : ByteArray := method_30_code
def yL_send : MethodName := ⟨RL, "send", "(LAvalancheGallery;II)I"⟩
abbrev cL_meltIfSent : ByteArray := method_31_code
def yL_meltIfSent : MethodName := ⟨RL, "meltIfSent", "(LAvalancheGallery;II)I"⟩
abbrev cL_leastPassed : ByteArray := method_32_code
def yL_leastPassed : MethodName := ⟨RL, "leastPassed", "(LAvalancheGallery;II)I"⟩
abbrev cL_leastByRounds : ByteArray := method_33_code
def yL_leastByRounds : MethodName := ⟨RL, "leastByRounds", "(LAvalancheGallery;II)I"⟩
abbrev cL_pass : ByteArray := method_34_code
def yL_pass : MethodName := ⟨RL, "pass", "(LAvalancheGallery;I)I"⟩
abbrev cL_ask : ByteArray := method_35_code
def yL_ask : MethodName := ⟨RL, "ask", "(LAvalancheGallery;IIII)I"⟩
abbrev cL_take : ByteArray := method_36_code
def yL_take : MethodName := ⟨RL, "take", "(LAvalancheGallery;I)I"⟩
abbrev cL_asked : ByteArray := method_37_code
def yL_asked : MethodName := ⟨RL, "asked", "(LAvalancheGallery;I)I"⟩
abbrev cL_taken : ByteArray := method_38_code
def yL_taken : MethodName := ⟨RL, "taken", "(LAvalancheGallery;I)I"⟩
abbrev cL_bestFees : ByteArray := method_39_code
def yL_bestFees : MethodName := ⟨RL, "bestFees", "(LAvalancheGallery;I)I"⟩
abbrev cL_byTrials : ByteArray := method_40_code
def yL_byTrials : MethodName := ⟨RL, "byTrials", "(LAvalancheGallery;I)I"⟩
abbrev cL_isLent : ByteArray := method_41_code
def yL_isLent : MethodName := ⟨RL, "isLent", "(LAvalancheGallery;II)I"⟩
abbrev cL_writePile : ByteArray := method_44_code
def yL_writePile : MethodName := ⟨RL, "writePile", "(LAvalancheGallery;I)I"⟩
abbrev cL_writeWay : ByteArray := method_45_code
def yL_writeWay : MethodName := ⟨RL, "writeWay", "(LAvalancheGallery;II)I"⟩
abbrev cL_outputAt : ByteArray := method_46_code
def yL_outputAt : MethodName := ⟨RL, "outputAt", "(LAvalancheGallery;I)I"⟩
abbrev cL_feed : ByteArray := method_47_code
def yL_feed : MethodName := ⟨RL, "feed", "(LAvalancheGallery;C)I"⟩
abbrev cL_executes : ByteArray := method_48_code
def yL_executes : MethodName := ⟨RL, "executes", "(LAvalancheGallery;)I"⟩
abbrev cL_undo : ByteArray := method_51_code
def yL_undo : MethodName := ⟨RL, "undo", "(LAvalancheGallery;)I"⟩
abbrev cL_execute : ByteArray := method_52_code
def yL_execute : MethodName := ⟨RL, "execute", "(LAvalancheGallery;Ljava/lang/String;)I"⟩
abbrev cL_drawn : ByteArray := method_53_code
def yL_drawn : MethodName := ⟨RL, "drawn", "([I)LAvalancheGallery;"⟩
abbrev cL_passedBy : ByteArray := method_54_code
def yL_passedBy : MethodName := ⟨RL, "passedBy", "(II)I"⟩
abbrev cL_law : ByteArray := code
def yL_law : MethodName := ⟨RL, "law", "([I)Z"⟩
abbrev cL_bestWay : ByteArray := method_56_code
def yL_bestWay : MethodName := ⟨RL, "bestWay", "(LAvalancheGallery;III)J"⟩
abbrev cL_ways : ByteArray := method_57_code
def yL_ways : MethodName := ⟨RL, "ways", "(LAvalancheGallery;)Z"⟩
abbrev cL_pile : ByteArray := method_58_code
def yL_pile : MethodName := ⟨RL, "pile", "(LAvalancheGallery;I)[[I"⟩
abbrev cL_topple : ByteArray := method_59_code
def yL_topple : MethodName := ⟨RL, "topple", "([[III)I"⟩
abbrev cL_neighbours : ByteArray := method_60_code
def yL_neighbours : MethodName := ⟨RL, "neighbours", "(II)I"⟩
abbrev cL_slopeFrom : ByteArray := method_61_code
def yL_slopeFrom : MethodName := ⟨RL, "slopeFrom", "([[III)I"⟩
abbrev cL_piles : ByteArray := method_62_code
def yL_piles : MethodName := ⟨RL, "piles", "([ILAvalancheGallery;)Z"⟩
abbrev cL_least : ByteArray := method_63_code
def yL_least : MethodName := ⟨RL, "least", "(LAvalancheGallery;IIII)I"⟩
abbrev cL_couriers : ByteArray := method_64_code
def yL_couriers : MethodName := ⟨RL, "couriers", "(LAvalancheGallery;)Z"⟩
abbrev cL_loans : ByteArray := method_65_code
def yL_loans : MethodName := ⟨RL, "loans", "(LAvalancheGallery;)Z"⟩
abbrev cL_spells : ByteArray := method_66_code
def yL_spells : MethodName := ⟨RL, "spells", "(LAvalancheGallery;ILjava/lang/String;)Z"⟩
abbrev cL_texts : ByteArray := method_67_code
def yL_texts : MethodName := ⟨RL, "texts", "(LAvalancheGallery;)Z"⟩
abbrev cL_sum : ByteArray := method_68_code
def yL_sum : MethodName := ⟨RL, "sum", "(LAvalancheGallery;)J"⟩
abbrev cL_undone : ByteArray := method_69_code
def yL_undone : MethodName := ⟨RL, "undone", "([ILAvalancheGallery;)Z"⟩
abbrev vwCl : List vw_C := [(RJ0, TJ0, 4), (RJ4, TJ4, 4), (RJx00060, TJx00060, 6), (RJx7c733, TJx7c733, 6), (RX1, TX1, 12), (RX4, TX4, 3), (RX5, TX5, 2), (RX6, TX6, 4), (RX7, TX7, 6), (RX8, TX8, 8), (RX9, TX9, 7), (RX10, TX10, 13)]
