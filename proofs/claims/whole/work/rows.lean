section
theorem goodIn_r {big : List Cond} (ws : List Cond) (ps : List Nat) (hp : ws = ps.filterMap (fun i => big[i]?)) (h : ws.all goodWord = true) : GoodIn big ws := by
  intro w hw
  have h1 := List.all_eq_true.mp h w hw
  rw [hp] at hw
  obtain ⟨i, -, hi⟩ := List.mem_filterMap.mp hw
  have hm : w ∈ big := by first | exact List.mem_of_getElem? hi | exact List.getElem?_mem hi
  exact ⟨hm, good_of_word h1⟩
theorem goodIn_app {big a b : List Cond} (ha : GoodIn big a) (hb : GoodIn big b) : GoodIn big (a ++ b) := fun w h => (List.mem_append.mp h).elim (ha w) (hb w)
theorem goodIn_ca {big a b : List Cond} {c : Cond} (ha : GoodIn big (c :: a)) (hb : GoodIn big b) : GoodIn big (c :: (a ++ b)) := fun w h => (List.mem_cons.mp h).elim (fun e => ha w (List.mem_cons.mpr (Or.inl e))) (fun h => (List.mem_append.mp h).elim (fun h => ha w (List.mem_cons.mpr (Or.inr h))) (hb w))
theorem goodIn_sub {big ws : List Cond} (hm : ∀ w ∈ ws, w ∈ big) (h : ws.all goodWord = true) : GoodIn big ws := fun w hw => ⟨hm w hw, good_of_word (List.all_eq_true.mp h w hw)⟩
def RX0 : String := "AreaGoals$Choice"
def TX0 : u_T := fun k => match k with
  | 0 => ("AreaGoals$Choice", "there", "Z", false)
  | 1 => ("AreaGoals$Choice", "cells", "I", false)
  | _ => ("AreaGoals$Choice", "price", "J", false)
def tyX0 : Nat → FieldType := fun k => match k with
  | 0 => .boolean
  | 1 => .int
  | _ => .long
abbrev wsX00 : List Cond := u_ws RX0 TX0 3
theorem nmX0 : ∀ a, a < 3 → ∀ b, b < 3 → a ≠ b → (TX0 a).2.1 ≠ (TX0 b).2.1 := by decide +kernel
theorem tyX0_ok : ∀ k, k < 3 → parseFieldDescriptor (TX0 k).2.2.1 = some (tyX0 k) := by decide +kernel
abbrev cX0_init : ByteArray := prog_2_method_1_code
def yX0_init : MethodName := ⟨RX0, "<init>", "()V"⟩
abbrev cX0_clear : ByteArray := prog_2_method_2_code
def yX0_clear : MethodName := ⟨RX0, "clear", "()V"⟩
abbrev cX0_take : ByteArray := prog_2_method_3_code
def yX0_take : MethodName := ⟨RX0, "take", "(IJ)V"⟩
abbrev cX0_isBeatenBy : ByteArray := prog_2_method_4_code
def yX0_isBeatenBy : MethodName := ⟨RX0, "isBeatenBy", "(IJ)Z"⟩
def RX1 : String := "AreaGoals$Draw"
def TX1 : u_T := fun k => match k with
  | _ => ("AreaGoals$Draw", "x", "J", false)
def tyX1 : Nat → FieldType := fun k => match k with
  | _ => .long
abbrev wsX10 : List Cond := u_ws RX1 TX1 1
theorem nmX1 : ∀ a, a < 1 → ∀ b, b < 1 → a ≠ b → (TX1 a).2.1 ≠ (TX1 b).2.1 := by decide +kernel
theorem tyX1_ok : ∀ k, k < 1 → parseFieldDescriptor (TX1 k).2.2.1 = some (tyX1 k) := by decide +kernel
abbrev cX1_init : ByteArray := prog_3_method_1_code
def yX1_init : MethodName := ⟨RX1, "<init>", "()V"⟩
abbrev cX1_start : ByteArray := prog_3_method_2_code
def yX1_start : MethodName := ⟨RX1, "start", "(J)V"⟩
abbrev cX1_next : ByteArray := prog_3_method_3_code
def yX1_next : MethodName := ⟨RX1, "next", "()J"⟩
def RX2 : String := "AreaGoals$Sea"
def TX2 : u_T := fun k => match k with
  | 0 => ("AreaGoals$Sea", "costs", "[J", true)
  | 1 => ("AreaGoals$Sea", "amounts", "[J", true)
  | 2 => ("AreaGoals$Sea", "hours", "[J", true)
  | 3 => ("AreaGoals$Sea", "borders", "[J", true)
  | 4 => ("AreaGoals$Sea", "tooFar", "[I", true)
  | 5 => ("AreaGoals$Sea", "kindTotals", "[J", true)
  | 6 => ("AreaGoals$Sea", "portTotals", "[J", true)
  | 7 => ("AreaGoals$Sea", "goalAbove", "[J", true)
  | 8 => ("AreaGoals$Sea", "goalBelow", "[J", true)
  | 9 => ("AreaGoals$Sea", "fairAbove", "J", false)
  | 10 => ("AreaGoals$Sea", "fairBelow", "J", false)
  | 11 => ("AreaGoals$Sea", "borderWeight", "J", false)
  | 12 => ("AreaGoals$Sea", "cells", "I", false)
  | 13 => ("AreaGoals$Sea", "needed", "I", false)
  | 14 => ("AreaGoals$Sea", "barred", "I", false)
  | _ => ("AreaGoals$Sea", "fewest", "I", false)
def tyX2 : Nat → FieldType := fun k => match k with
  | 0 => .array .long
  | 1 => .array .long
  | 2 => .array .long
  | 3 => .array .long
  | 4 => .array .int
  | 5 => .array .long
  | 6 => .array .long
  | 7 => .array .long
  | 8 => .array .long
  | 9 => .long
  | 10 => .long
  | 11 => .long
  | 12 => .int
  | 13 => .int
  | 14 => .int
  | _ => .int
abbrev wsX20 : List Cond := u_ws RX2 TX2 16
theorem nmX2 : ∀ a, a < 16 → ∀ b, b < 16 → a ≠ b → (TX2 a).2.1 ≠ (TX2 b).2.1 := by decide +kernel
theorem tyX2_ok : ∀ k, k < 16 → parseFieldDescriptor (TX2 k).2.2.1 = some (tyX2 k) := by decide +kernel
abbrev cX2_init : ByteArray := prog_4_method_1_code
def yX2_init : MethodName := ⟨RX2, "<init>", "()V"⟩
abbrev cX2_hasCell : ByteArray := prog_4_method_2_code
def yX2_hasCell : MethodName := ⟨RX2, "hasCell", "(I)Z"⟩
abbrev cX2_hasPair : ByteArray := prog_4_method_3_code
def yX2_hasPair : MethodName := ⟨RX2, "hasPair", "(II)Z"⟩
abbrev cX2_putAmount : ByteArray := prog_4_method_4_code
def yX2_putAmount : MethodName := ⟨RX2, "putAmount", "(IIJ)V"⟩
abbrev cX2_putHours : ByteArray := prog_4_method_5_code
def yX2_putHours : MethodName := ⟨RX2, "putHours", "(IIJ)V"⟩
abbrev cX2_openSet : ByteArray := prog_4_method_6_code
def yX2_openSet : MethodName := ⟨RX2, "openSet", "()I"⟩
abbrev cX2_freeSet : ByteArray := prog_4_method_7_code
def yX2_freeSet : MethodName := ⟨RX2, "freeSet", "()I"⟩
abbrev cX2_costsOf : ByteArray := prog_4_method_8_code
def yX2_costsOf : MethodName := ⟨RX2, "costsOf", "(I)J"⟩
abbrev cX2_comesBefore : ByteArray := prog_4_method_9_code
def yX2_comesBefore : MethodName := ⟨RX2, "comesBefore", "(II)Z"⟩
def RX3 : String := "AreaGoals$Tally"
def TX3 : u_T := fun k => match k with
  | 0 => ("AreaGoals$Tally", "sea", "LAreaGoals$Sea;", true)
  | 1 => ("AreaGoals$Tally", "amounts", "[J", true)
  | 2 => ("AreaGoals$Tally", "hours", "[J", true)
  | 3 => ("AreaGoals$Tally", "cells", "I", false)
  | 4 => ("AreaGoals$Tally", "farPairs", "I", false)
  | 5 => ("AreaGoals$Tally", "cellCosts", "J", false)
  | _ => ("AreaGoals$Tally", "borderLength", "J", false)
def tyX3 : Nat → FieldType := fun k => match k with
  | 0 => .object "AreaGoals$Sea"
  | 1 => .array .long
  | 2 => .array .long
  | 3 => .int
  | 4 => .int
  | 5 => .long
  | _ => .long
abbrev wsX30 : List Cond := u_ws RX3 TX3 7
theorem nmX3 : ∀ a, a < 7 → ∀ b, b < 7 → a ≠ b → (TX3 a).2.1 ≠ (TX3 b).2.1 := by decide +kernel
theorem tyX3_ok : ∀ k, k < 7 → parseFieldDescriptor (TX3 k).2.2.1 = some (tyX3 k) := by decide +kernel
abbrev cX3_init : ByteArray := prog_5_method_1_code
def yX3_init : MethodName := ⟨RX3, "<init>", "(LAreaGoals$Sea;)V"⟩
abbrev cX3_begin : ByteArray := prog_5_method_2_code
def yX3_begin : MethodName := ⟨RX3, "begin", "(I)V"⟩
abbrev cX3_exchange : ByteArray := prog_5_method_3_code
def yX3_exchange : MethodName := ⟨RX3, "exchange", "(I)V"⟩
abbrev cX3_borderGainedBy : ByteArray := prog_5_method_4_code
def yX3_borderGainedBy : MethodName := ⟨RX3, "borderGainedBy", "(II)J"⟩
abbrev cX3_price : ByteArray := prog_5_method_5_code
def yX3_price : MethodName := ⟨RX3, "price", "()J"⟩
abbrev cX3_stands : ByteArray := prog_5_method_6_code
def yX3_stands : MethodName := ⟨RX3, "stands", "()Z"⟩
abbrev cX3_meetsGoals : ByteArray := prog_5_method_7_code
def yX3_meetsGoals : MethodName := ⟨RX3, "meetsGoals", "()Z"⟩
abbrev cX3_meetsGoal : ByteArray := prog_5_method_8_code
def yX3_meetsGoal : MethodName := ⟨RX3, "meetsGoal", "(I)Z"⟩
abbrev cX3_isFair : ByteArray := prog_5_method_9_code
def yX3_isFair : MethodName := ⟨RX3, "isFair", "()Z"⟩
def RX4 : String := "AreaGoals"
def TX4 : u_T := fun k => match k with
  | 0 => ("AreaGoals", "sea", "LAreaGoals$Sea;", true)
  | 1 => ("AreaGoals", "tally", "LAreaGoals$Tally;", true)
  | 2 => ("AreaGoals", "draw", "LAreaGoals$Draw;", true)
  | 3 => ("AreaGoals", "trialDraw", "LAreaGoals$Draw;", true)
  | 4 => ("AreaGoals", "latest", "LAreaGoals$Choice;", true)
  | 5 => ("AreaGoals", "freeCells", "[I", true)
  | 6 => ("AreaGoals", "cellsBefore", "I", false)
  | 7 => ("AreaGoals", "runAnswer", "I", false)
  | 8 => ("AreaGoals", "toldBound", "J", false)
  | _ => ("AreaGoals", "clashingKinds", "I", false)
def tyX4 : Nat → FieldType := fun k => match k with
  | 0 => .object "AreaGoals$Sea"
  | 1 => .object "AreaGoals$Tally"
  | 2 => .object "AreaGoals$Draw"
  | 3 => .object "AreaGoals$Draw"
  | 4 => .object "AreaGoals$Choice"
  | 5 => .array .int
  | 6 => .int
  | 7 => .int
  | 8 => .long
  | _ => .int
abbrev wsX40 : List Cond := u_ws RX4 TX4 10
theorem nmX4 : ∀ a, a < 10 → ∀ b, b < 10 → a ≠ b → (TX4 a).2.1 ≠ (TX4 b).2.1 := by decide +kernel
theorem tyX4_ok : ∀ k, k < 10 → parseFieldDescriptor (TX4 k).2.2.1 = some (tyX4 k) := by decide +kernel
abbrev cX4_init : ByteArray := prog_1_method_1_code
def yX4_init : MethodName := ⟨RX4, "<init>", "(J)V"⟩
abbrev cX4_cell : ByteArray := prog_1_method_2_code
def yX4_cell : MethodName := ⟨RX4, "cell", "(J)I"⟩
abbrev cX4_holds : ByteArray := prog_1_method_3_code
def yX4_holds : MethodName := ⟨RX4, "holds", "(IIJJ)Z"⟩
abbrev cX4_goal : ByteArray := prog_1_method_4_code
def yX4_goal : MethodName := ⟨RX4, "goal", "(IJJ)Z"⟩
abbrev cX4_near : ByteArray := prog_1_method_5_code
def yX4_near : MethodName := ⟨RX4, "near", "(IIJ)Z"⟩
abbrev cX4_weight : ByteArray := prog_1_method_6_code
def yX4_weight : MethodName := ⟨RX4, "weight", "(J)Z"⟩
abbrev cX4_must : ByteArray := prog_1_method_7_code
def yX4_must : MethodName := ⟨RX4, "must", "(I)Z"⟩
abbrev cX4_bar : ByteArray := prog_1_method_8_code
def yX4_bar : MethodName := ⟨RX4, "bar", "(I)Z"⟩
abbrev cX4_zone : ByteArray := prog_1_method_9_code
def yX4_zone : MethodName := ⟨RX4, "zone", "(II)I"⟩
abbrev cX4_run : ByteArray := prog_1_method_10_code
def yX4_run : MethodName := ⟨RX4, "run", "(J)I"⟩
abbrev cX4_chosen : ByteArray := prog_1_method_11_code
def yX4_chosen : MethodName := ⟨RX4, "chosen", "(I)Z"⟩
abbrev cX4_cost : ByteArray := prog_1_method_12_code
def yX4_cost : MethodName := ⟨RX4, "cost", "()J"⟩
abbrev cX4_bound : ByteArray := prog_1_method_13_code
def yX4_bound : MethodName := ⟨RX4, "bound", "()J"⟩
abbrev cX4_met : ByteArray := prog_1_method_14_code
def yX4_met : MethodName := ⟨RX4, "met", "(II)J"⟩
abbrev cX4_clash : ByteArray := prog_1_method_15_code
def yX4_clash : MethodName := ⟨RX4, "clash", "(I)I"⟩
abbrev cX4_proved : ByteArray := prog_1_method_16_code
def yX4_proved : MethodName := ⟨RX4, "proved", "()Z"⟩
abbrev cX4_improve : ByteArray := prog_1_method_17_code
def yX4_improve : MethodName := ⟨RX4, "improve", "(I)I"⟩
abbrev cX4_often : ByteArray := prog_1_method_18_code
def yX4_often : MethodName := ⟨RX4, "often", "(II)J"⟩
abbrev cX4_port : ByteArray := prog_1_method_19_code
def yX4_port : MethodName := ⟨RX4, "port", "(IIJ)Z"⟩
abbrev cX4_loss : ByteArray := prog_1_method_20_code
def yX4_loss : MethodName := ⟨RX4, "loss", "(II)J"⟩
abbrev cX4_fair : ByteArray := prog_1_method_21_code
def yX4_fair : MethodName := ⟨RX4, "fair", "(JJ)Z"⟩
abbrev cX4_border : ByteArray := prog_1_method_22_code
def yX4_border : MethodName := ⟨RX4, "border", "()J"⟩
abbrev cX4_size : ByteArray := prog_1_method_23_code
def yX4_size : MethodName := ⟨RX4, "size", "(I)I"⟩
abbrev cX4_year : ByteArray := prog_1_method_24_code
def yX4_year : MethodName := ⟨RX4, "year", "(I)I"⟩
abbrev cX4_wind : ByteArray := prog_1_method_25_code
def yX4_wind : MethodName := ⟨RX4, "wind", "(IJ)Z"⟩
abbrev cX4_unlike : ByteArray := prog_1_method_26_code
def yX4_unlike : MethodName := ⟨RX4, "unlike", "(I)I"⟩
abbrev cX4_far : ByteArray := prog_1_method_27_code
def yX4_far : MethodName := ⟨RX4, "far", "(III)Z"⟩
abbrev cX4_tie : ByteArray := prog_1_method_28_code
def yX4_tie : MethodName := ⟨RX4, "tie", "(I)I"⟩
abbrev cX4_within : ByteArray := prog_1_method_29_code
def yX4_within : MethodName := ⟨RX4, "within", "(JJ)Z"⟩
abbrev cX4_isShare : ByteArray := prog_1_method_30_code
def yX4_isShare : MethodName := ⟨RX4, "isShare", "(JJ)Z"⟩
abbrev cX4_isKind : ByteArray := prog_1_method_31_code
def yX4_isKind : MethodName := ⟨RX4, "isKind", "(I)Z"⟩
abbrev cX4_isPort : ByteArray := prog_1_method_32_code
def yX4_isPort : MethodName := ⟨RX4, "isPort", "(I)Z"⟩
abbrev cX4_hasBit : ByteArray := prog_1_method_33_code
def yX4_hasBit : MethodName := ⟨RX4, "hasBit", "(II)Z"⟩
abbrev cX4_placeOfBit : ByteArray := prog_1_method_34_code
def yX4_placeOfBit : MethodName := ⟨RX4, "placeOfBit", "(II)I"⟩
abbrev cX4_partOf : ByteArray := prog_1_method_35_code
def yX4_partOf : MethodName := ⟨RX4, "partOf", "(JJI)J"⟩
abbrev cX4_commonDivisor : ByteArray := prog_1_method_36_code
def yX4_commonDivisor : MethodName := ⟨RX4, "commonDivisor", "(JJ)J"⟩
abbrev cX4_findClashes : ByteArray := prog_1_method_37_code
def yX4_findClashes : MethodName := ⟨RX4, "findClashes", "()I"⟩
abbrev cX4_search : ByteArray := prog_1_method_38_code
def yX4_search : MethodName := ⟨RX4, "search", "()V"⟩
abbrev cX4_considerTally : ByteArray := prog_1_method_39_code
def yX4_considerTally : MethodName := ⟨RX4, "considerTally", "()V"⟩
abbrev cX4_listFreeCells : ByteArray := prog_1_method_40_code
def yX4_listFreeCells : MethodName := ⟨RX4, "listFreeCells", "()I"⟩
abbrev cX4_drawnMoves : ByteArray := prog_1_method_41_code
def yX4_drawnMoves : MethodName := ⟨RX4, "drawnMoves", "(LAreaGoals$Draw;I)I"⟩
abbrev cX4_findExchangeable : ByteArray := prog_1_method_42_code
def yX4_findExchangeable : MethodName := ⟨RX4, "findExchangeable", "()I"⟩
def RX5 : String := "AreaGoalsModel"
def TX5 : u_T := fun k => match k with
  | 0 => ("AreaGoalsModel", "cells", "I", false)
  | 1 => ("AreaGoalsModel", "costs", "[J", true)
  | 2 => ("AreaGoalsModel", "states", "[I", true)
  | 3 => ("AreaGoalsModel", "amounts", "[J", true)
  | 4 => ("AreaGoalsModel", "hours", "[J", true)
  | 5 => ("AreaGoalsModel", "borders", "[J", true)
  | 6 => ("AreaGoalsModel", "apart", "[Z", true)
  | 7 => ("AreaGoalsModel", "hasGoal", "[Z", true)
  | 8 => ("AreaGoalsModel", "goalAbove", "[J", true)
  | 9 => ("AreaGoalsModel", "goalBelow", "[J", true)
  | 10 => ("AreaGoalsModel", "isFair", "Z", false)
  | 11 => ("AreaGoalsModel", "fairAbove", "J", false)
  | 12 => ("AreaGoalsModel", "fairBelow", "J", false)
  | 13 => ("AreaGoalsModel", "weight", "J", false)
  | 14 => ("AreaGoalsModel", "least", "I", false)
  | 15 => ("AreaGoalsModel", "draw", "J", false)
  | 16 => ("AreaGoalsModel", "hasChoice", "Z", false)
  | 17 => ("AreaGoalsModel", "choice", "I", false)
  | 18 => ("AreaGoalsModel", "earlier", "I", false)
  | 19 => ("AreaGoalsModel", "cost", "J", false)
  | 20 => ("AreaGoalsModel", "hasRun", "Z", false)
  | 21 => ("AreaGoalsModel", "answer", "I", false)
  | 22 => ("AreaGoalsModel", "bound", "J", false)
  | 23 => ("AreaGoalsModel", "clashes", "I", false)
  | 24 => ("AreaGoalsModel", "tried", "I", false)
  | 25 => ("AreaGoalsModel", "triedCost", "J", false)
  | _ => ("AreaGoalsModel", "kept", "I", false)
def tyX5 : Nat → FieldType := fun k => match k with
  | 0 => .int
  | 1 => .array .long
  | 2 => .array .int
  | 3 => .array .long
  | 4 => .array .long
  | 5 => .array .long
  | 6 => .array .boolean
  | 7 => .array .boolean
  | 8 => .array .long
  | 9 => .array .long
  | 10 => .boolean
  | 11 => .long
  | 12 => .long
  | 13 => .long
  | 14 => .int
  | 15 => .long
  | 16 => .boolean
  | 17 => .int
  | 18 => .int
  | 19 => .long
  | 20 => .boolean
  | 21 => .int
  | 22 => .long
  | 23 => .int
  | 24 => .int
  | 25 => .long
  | _ => .int
abbrev wsX50 : List Cond := u_ws RX5 TX5 27
theorem nmX5 : ∀ a, a < 27 → ∀ b, b < 27 → a ≠ b → (TX5 a).2.1 ≠ (TX5 b).2.1 := by decide +kernel
theorem tyX5_ok : ∀ k, k < 27 → parseFieldDescriptor (TX5 k).2.2.1 = some (tyX5 k) := by decide +kernel
abbrev cX5_init : ByteArray := prog_7_method_1_code
def yX5_init : MethodName := ⟨RX5, "<init>", "(J)V"⟩
abbrev cX5_begun : ByteArray := prog_7_method_2_code
def yX5_begun : MethodName := ⟨RX5, "begun", "(J)J"⟩
abbrev cX5_isCell : ByteArray := prog_7_method_3_code
def yX5_isCell : MethodName := ⟨RX5, "isCell", "(I)Z"⟩
abbrev cX5_isKind : ByteArray := prog_7_method_4_code
def yX5_isKind : MethodName := ⟨RX5, "isKind", "(I)Z"⟩
abbrev cX5_isPort : ByteArray := prog_7_method_5_code
def yX5_isPort : MethodName := ⟨RX5, "isPort", "(I)Z"⟩
abbrev cX5_isShare : ByteArray := prog_7_method_6_code
def yX5_isShare : MethodName := ⟨RX5, "isShare", "(JJ)Z"⟩
abbrev cX5_cell : ByteArray := prog_7_method_7_code
def yX5_cell : MethodName := ⟨RX5, "cell", "(J)I"⟩
abbrev cX5_holds : ByteArray := prog_7_method_8_code
def yX5_holds : MethodName := ⟨RX5, "holds", "(IIJJ)Z"⟩
abbrev cX5_goal : ByteArray := prog_7_method_9_code
def yX5_goal : MethodName := ⟨RX5, "goal", "(IJJ)Z"⟩
abbrev cX5_near : ByteArray := prog_7_method_10_code
def yX5_near : MethodName := ⟨RX5, "near", "(IIJ)Z"⟩
abbrev cX5_far : ByteArray := prog_7_method_11_code
def yX5_far : MethodName := ⟨RX5, "far", "(III)Z"⟩
abbrev cX5_weight : ByteArray := prog_7_method_12_code
def yX5_weight : MethodName := ⟨RX5, "weight", "(J)Z"⟩
abbrev cX5_must : ByteArray := prog_7_method_13_code
def yX5_must : MethodName := ⟨RX5, "must", "(I)Z"⟩
abbrev cX5_bar : ByteArray := prog_7_method_14_code
def yX5_bar : MethodName := ⟨RX5, "bar", "(I)Z"⟩
abbrev cX5_port : ByteArray := prog_7_method_15_code
def yX5_port : MethodName := ⟨RX5, "port", "(IIJ)Z"⟩
abbrev cX5_fair : ByteArray := prog_7_method_16_code
def yX5_fair : MethodName := ⟨RX5, "fair", "(JJ)Z"⟩
abbrev cX5_size : ByteArray := prog_7_method_17_code
def yX5_size : MethodName := ⟨RX5, "size", "(I)I"⟩
abbrev cX5_wind : ByteArray := prog_7_method_18_code
def yX5_wind : MethodName := ⟨RX5, "wind", "(IJ)Z"⟩
abbrev cX5_has : ByteArray := prog_7_method_19_code
def yX5_has : MethodName := ⟨RX5, "has", "(II)Z"⟩
abbrev cX5_count : ByteArray := prog_7_method_20_code
def yX5_count : MethodName := ⟨RX5, "count", "(I)I"⟩
abbrev cX5_all : ByteArray := prog_7_method_21_code
def yX5_all : MethodName := ⟨RX5, "all", "()I"⟩
abbrev cX5_open : ByteArray := prog_7_method_22_code
def yX5_open : MethodName := ⟨RX5, "open", "()I"⟩
abbrev cX5_amount : ByteArray := prog_7_method_23_code
def yX5_amount : MethodName := ⟨RX5, "amount", "(II)J"⟩
abbrev cX5_hoursIn : ByteArray := prog_7_method_24_code
def yX5_hoursIn : MethodName := ⟨RX5, "hoursIn", "(II)J"⟩
abbrev cX5_meets : ByteArray := prog_7_method_25_code
def yX5_meets : MethodName := ⟨RX5, "meets", "(II)Z"⟩
abbrev cX5_stands : ByteArray := prog_7_method_26_code
def yX5_stands : MethodName := ⟨RX5, "stands", "(I)Z"⟩
abbrev cX5_borderOf : ByteArray := prog_7_method_27_code
def yX5_borderOf : MethodName := ⟨RX5, "borderOf", "(I)J"⟩
abbrev cX5_costOf : ByteArray := prog_7_method_28_code
def yX5_costOf : MethodName := ⟨RX5, "costOf", "(I)J"⟩
abbrev cX5_isBefore : ByteArray := prog_7_method_29_code
def yX5_isBefore : MethodName := ⟨RX5, "isBefore", "(II)Z"⟩
abbrev cX5_become : ByteArray := prog_7_method_30_code
def yX5_become : MethodName := ⟨RX5, "become", "(ZIJ)V"⟩
abbrev cX5_run : ByteArray := prog_7_method_31_code
def yX5_run : MethodName := ⟨RX5, "run", "(J)I"⟩
abbrev cX5_chosen : ByteArray := prog_7_method_32_code
def yX5_chosen : MethodName := ⟨RX5, "chosen", "(I)Z"⟩
abbrev cX5_cost : ByteArray := prog_7_method_33_code
def yX5_cost : MethodName := ⟨RX5, "cost", "()J"⟩
abbrev cX5_bound : ByteArray := prog_7_method_34_code
def yX5_bound : MethodName := ⟨RX5, "bound", "()J"⟩
abbrev cX5_proved : ByteArray := prog_7_method_35_code
def yX5_proved : MethodName := ⟨RX5, "proved", "()Z"⟩
abbrev cX5_clash : ByteArray := prog_7_method_36_code
def yX5_clash : MethodName := ⟨RX5, "clash", "(I)I"⟩
abbrev cX5_next : ByteArray := prog_7_method_37_code
def yX5_next : MethodName := ⟨RX5, "next", "(J)J"⟩
abbrev cX5_steps : ByteArray := prog_7_method_38_code
def yX5_steps : MethodName := ⟨RX5, "steps", "(JI)J"⟩
abbrev cX5_improve : ByteArray := prog_7_method_39_code
def yX5_improve : MethodName := ⟨RX5, "improve", "(I)I"⟩
abbrev cX5_often : ByteArray := prog_7_method_40_code
def yX5_often : MethodName := ⟨RX5, "often", "(II)J"⟩
abbrev cX5_zone : ByteArray := prog_7_method_41_code
def yX5_zone : MethodName := ⟨RX5, "zone", "(II)I"⟩
abbrev cX5_part : ByteArray := prog_7_method_42_code
def yX5_part : MethodName := ⟨RX5, "part", "(JJI)J"⟩
abbrev cX5_met : ByteArray := prog_7_method_43_code
def yX5_met : MethodName := ⟨RX5, "met", "(II)J"⟩
abbrev cX5_loss : ByteArray := prog_7_method_44_code
def yX5_loss : MethodName := ⟨RX5, "loss", "(II)J"⟩
abbrev cX5_border : ByteArray := prog_7_method_45_code
def yX5_border : MethodName := ⟨RX5, "border", "()J"⟩
abbrev cX5_year : ByteArray := prog_7_method_46_code
def yX5_year : MethodName := ⟨RX5, "year", "(I)I"⟩
abbrev cX5_unlike : ByteArray := prog_7_method_47_code
def yX5_unlike : MethodName := ⟨RX5, "unlike", "(I)I"⟩
abbrev cX5_tie : ByteArray := prog_7_method_48_code
def yX5_tie : MethodName := ⟨RX5, "tie", "(I)I"⟩
def RJ6 : String := "java/lang/Integer"
def TJ6 : u_T := fun k => match k with
  | _ => ("", "", "", false)
def tyJ6 : Nat → FieldType := fun k => match k with
  | _ => .int
abbrev wsJ60 : List Cond := u_ws RJ6 TJ6 0
theorem nmJ6 : ∀ a, a < 0 → ∀ b, b < 0 → a ≠ b → (TJ6 a).2.1 ≠ (TJ6 b).2.1 := by decide +kernel
theorem tyJ6_ok : ∀ k, k < 0 → parseFieldDescriptor (TJ6 k).2.2.1 = some (tyJ6 k) := by decide +kernel
abbrev cJ6_bitCount_0f7a4 : ByteArray := prog_8_method_49_code
def yJ6_bitCount_0f7a4 : MethodName := ⟨RJ6, "bitCount", "(I)I"⟩
def RL : String := "AreaGoalsLaw"
abbrev cL_cell : ByteArray := method_2_code
def yL_cell : MethodName := ⟨RL, "cell", "([II)I"⟩
abbrev cL_law : ByteArray := code
def yL_law : MethodName := ⟨RL, "law", "([I)Z"⟩
def wsL_law_r1 : List Cond := [Cond.classLink RL 7 RX4, Cond.instantiable RX4 10, Cond.initialized RX4, Cond.classLink RL 18 RX5, Cond.instantiable RX5 27, Cond.initialized RX5, Cond.constantLong RL 21 (4294967295), Cond.methodLink RL 9 yL_cell, Cond.static yL_cell, Cond.initialized RL, Cond.code yL_cell cL_cell 2 (some .int), Cond.methodLink RL 15 yX4_init, Cond.instanceMethod yX4_init, Cond.code yX4_init cX4_init 3 none, Cond.methodLink RX4 1 objectInit, Cond.instanceMethod objectInit, Cond.code objectInit ⟨#[0xb1]⟩ 1 none, Cond.classLink RX4 7 RX2, Cond.instantiable RX2 16, Cond.initialized RX2, Cond.fieldLink RX4 10 "AreaGoals" "sea" "LAreaGoals$Sea;", Cond.classLink RX4 16 RX3, Cond.instantiable RX3 7, Cond.initialized RX3]
def wsL_law_r2 : List Cond := [Cond.fieldLink RX4 21 "AreaGoals" "tally" "LAreaGoals$Tally;", Cond.classLink RX4 25 RX1, Cond.instantiable RX1 1, Cond.initialized RX1, Cond.fieldLink RX4 28 "AreaGoals" "draw" "LAreaGoals$Draw;", Cond.fieldLink RX4 36 "AreaGoals" "trialDraw" "LAreaGoals$Draw;", Cond.classLink RX4 39 RX0, Cond.instantiable RX0 3, Cond.initialized RX0, Cond.fieldLink RX4 42 "AreaGoals" "latest" "LAreaGoals$Choice;", Cond.arrayClass .int, Cond.fieldLink RX4 46 "AreaGoals" "freeCells" "[I", Cond.fieldLink RX4 50 "AreaGoals" "runAnswer" "I", Cond.constantLong RX4 54 (-1), Cond.fieldLink RX4 56 "AreaGoals" "toldBound" "J", Cond.instanceMethod yX2_init, Cond.code yX2_init cX2_init 2 none, Cond.methodLink RX2 3 objectInit, Cond.arrayClass .long, Cond.fieldLink RX2 9 "AreaGoals$Sea" "costs" "[J", Cond.fieldLink RX2 15 "AreaGoals$Sea" "amounts" "[J", Cond.fieldLink RX2 18 "AreaGoals$Sea" "hours" "[J", Cond.fieldLink RX2 21 "AreaGoals$Sea" "borders" "[J", Cond.fieldLink RX2 24 "AreaGoals$Sea" "tooFar" "[I"]
def wsL_law_r3 : List Cond := [Cond.fieldLink RX2 28 "AreaGoals$Sea" "kindTotals" "[J", Cond.fieldLink RX2 31 "AreaGoals$Sea" "portTotals" "[J", Cond.fieldLink RX2 34 "AreaGoals$Sea" "goalAbove" "[J", Cond.fieldLink RX2 37 "AreaGoals$Sea" "goalBelow" "[J", Cond.fieldLink RX2 40 "AreaGoals$Sea" "fairAbove" "J", Cond.fieldLink RX2 44 "AreaGoals$Sea" "fairBelow" "J", Cond.instanceMethod yX3_init, Cond.code yX3_init cX3_init 2 none, Cond.methodLink RX3 3 objectInit, Cond.fieldLink RX3 9 "AreaGoals$Tally" "sea" "LAreaGoals$Sea;", Cond.fieldLink RX3 15 "AreaGoals$Tally" "amounts" "[J", Cond.fieldLink RX3 19 "AreaGoals$Tally" "hours" "[J", Cond.instanceMethod yX1_init, Cond.code yX1_init cX1_init 1 none, Cond.methodLink RX1 1 objectInit, Cond.instanceMethod yX1_start, Cond.selects RX1 yX1_start yX1_start, Cond.code yX1_start cX1_start 3 none, Cond.constantLong RX1 9 (88172645463325252), Cond.fieldLink RX1 11 "AreaGoals$Draw" "x" "J", Cond.instanceMethod yX0_init, Cond.code yX0_init cX0_init 1 none, Cond.methodLink RX0 3 objectInit, Cond.constantLong RX0 9 (-1)]
def wsL_law_r4 : List Cond := [Cond.fieldLink RX0 11 "AreaGoals$Choice" "price" "J", Cond.methodLink RL 20 yX5_init, Cond.instanceMethod yX5_init, Cond.code yX5_init cX5_init 3 none, Cond.methodLink RX5 1 objectInit, Cond.fieldLink RX5 7 "AreaGoalsModel" "costs" "[J", Cond.fieldLink RX5 13 "AreaGoalsModel" "states" "[I", Cond.fieldLink RX5 17 "AreaGoalsModel" "amounts" "[J", Cond.fieldLink RX5 20 "AreaGoalsModel" "hours" "[J", Cond.fieldLink RX5 23 "AreaGoalsModel" "borders" "[J", Cond.arrayClass .boolean, Cond.fieldLink RX5 26 "AreaGoalsModel" "apart" "[Z", Cond.fieldLink RX5 30 "AreaGoalsModel" "hasGoal" "[Z", Cond.fieldLink RX5 33 "AreaGoalsModel" "goalAbove" "[J", Cond.fieldLink RX5 36 "AreaGoalsModel" "goalBelow" "[J", Cond.fieldLink RX5 43 "AreaGoalsModel" "draw" "J", Cond.methodLink RX5 39 yX5_begun, Cond.static yX5_begun, Cond.code yX5_begun cX5_begun 2 (some .long), Cond.constantLong RX5 47 (88172645463325252), Cond.methodLink RL 23 yX4_cell, Cond.instanceMethod yX4_cell, Cond.selects RX4 yX4_cell yX4_cell, Cond.code yX4_cell cX4_cell 3 (some .int)]
def wsL_law_r5 : List Cond := [Cond.constantLong RX4 63 (1000000), Cond.methodLink RX4 65 yX4_within, Cond.static yX4_within, Cond.code yX4_within cX4_within 4 (some .boolean), Cond.methodLink RL 26 yX5_cell, Cond.instanceMethod yX5_cell, Cond.selects RX5 yX5_cell yX5_cell, Cond.code yX5_cell cX5_cell 3 (some .int), Cond.fieldLink RX5 49 "AreaGoalsModel" "cells" "I", Cond.constantLong RX5 55 (1000000), Cond.methodLink RL 27 yX4_holds, Cond.instanceMethod yX4_holds, Cond.selects RX4 yX4_holds yX4_holds, Cond.code yX4_holds cX4_holds 7 (some .boolean), Cond.constantLong RX4 80 (1000), Cond.constantLong RX4 82 (16), Cond.constantLong RX4 84 (720720), Cond.instanceMethod yX2_hasCell, Cond.selects RX2 yX2_hasCell yX2_hasCell, Cond.code yX2_hasCell cX2_hasCell 2 (some .boolean), Cond.fieldLink RX2 47 "AreaGoals$Sea" "cells" "I", Cond.methodLink RX4 77 yX4_isKind, Cond.static yX4_isKind, Cond.code yX4_isKind cX4_isKind 1 (some .boolean)]
def wsL_law_r6 : List Cond := [Cond.instanceMethod yX2_putAmount, Cond.selects RX2 yX2_putAmount yX2_putAmount, Cond.code yX2_putAmount cX2_putAmount 6 none, Cond.methodLink RL 31 yX5_holds, Cond.instanceMethod yX5_holds, Cond.selects RX5 yX5_holds yX5_holds, Cond.code yX5_holds cX5_holds 7 (some .boolean), Cond.constantLong RX5 64 (1000), Cond.constantLong RX5 66 (16), Cond.constantLong RX5 68 (720720), Cond.methodLink RX5 57 yX5_isCell, Cond.instanceMethod yX5_isCell, Cond.selects RX5 yX5_isCell yX5_isCell, Cond.code yX5_isCell cX5_isCell 2 (some .boolean), Cond.methodLink RX5 61 yX5_isKind, Cond.static yX5_isKind, Cond.code yX5_isKind cX5_isKind 1 (some .boolean), Cond.methodLink RL 32 yX4_goal, Cond.instanceMethod yX4_goal, Cond.selects RX4 yX4_goal yX4_goal, Cond.code yX4_goal cX4_goal 6 (some .boolean), Cond.methodLink RX4 90 yX4_isShare, Cond.static yX4_isShare, Cond.code yX4_isShare cX4_isShare 4 (some .boolean)]
def wsL_law_r7 : List Cond := [Cond.constantLong RX4 223 (100), Cond.methodLink RL 36 yX5_goal, Cond.instanceMethod yX5_goal, Cond.selects RX5 yX5_goal yX5_goal, Cond.code yX5_goal cX5_goal 6 (some .boolean), Cond.methodLink RX5 70 yX5_isShare, Cond.static yX5_isShare, Cond.code yX5_isShare cX5_isShare 4 (some .boolean), Cond.constantLong RX5 53 (100), Cond.methodLink RL 37 yX4_near, Cond.instanceMethod yX4_near, Cond.selects RX4 yX4_near yX4_near, Cond.code yX4_near cX4_near 5 (some .boolean), Cond.instanceMethod yX2_hasPair, Cond.selects RX2 yX2_hasPair yX2_hasPair, Cond.code yX2_hasPair cX2_hasPair 3 (some .boolean), Cond.methodLink RX2 51 yX2_hasCell, Cond.methodLink RL 41 yX5_near, Cond.instanceMethod yX5_near, Cond.selects RX5 yX5_near yX5_near, Cond.code yX5_near cX5_near 5 (some .boolean), Cond.methodLink RL 42 yX4_weight, Cond.instanceMethod yX4_weight, Cond.selects RX4 yX4_weight yX4_weight]
def wsL_law_r8 : List Cond := [Cond.code yX4_weight cX4_weight 3 (some .boolean), Cond.methodLink RL 46 yX5_weight, Cond.instanceMethod yX5_weight, Cond.selects RX5 yX5_weight yX5_weight, Cond.code yX5_weight cX5_weight 3 (some .boolean), Cond.fieldLink RX5 74 "AreaGoalsModel" "weight" "J", Cond.methodLink RL 47 yX4_must, Cond.instanceMethod yX4_must, Cond.selects RX4 yX4_must yX4_must, Cond.code yX4_must cX4_must 2 (some .boolean), Cond.methodLink RL 51 yX5_must, Cond.instanceMethod yX5_must, Cond.selects RX5 yX5_must yX5_must, Cond.code yX5_must cX5_must 2 (some .boolean), Cond.methodLink RL 52 yX4_bar, Cond.instanceMethod yX4_bar, Cond.selects RX4 yX4_bar yX4_bar, Cond.code yX4_bar cX4_bar 2 (some .boolean), Cond.methodLink RL 55 yX5_bar, Cond.instanceMethod yX5_bar, Cond.selects RX5 yX5_bar yX5_bar, Cond.code yX5_bar cX5_bar 2 (some .boolean), Cond.methodLink RL 56 yX4_zone, Cond.instanceMethod yX4_zone]
def wsL_law_r9 : List Cond := [Cond.selects RX4 yX4_zone yX4_zone, Cond.code yX4_zone cX4_zone 5 (some .int), Cond.methodLink RX4 120 yX4_hasBit, Cond.static yX4_hasBit, Cond.code yX4_hasBit cX4_hasBit 2 (some .boolean), Cond.methodLink RL 60 yX5_zone, Cond.instanceMethod yX5_zone, Cond.selects RX5 yX5_zone yX5_zone, Cond.code yX5_zone cX5_zone 5 (some .int), Cond.fieldLink RX5 121 "AreaGoalsModel" "hasChoice" "Z", Cond.fieldLink RX5 124 "AreaGoalsModel" "choice" "I", Cond.methodLink RX5 95 yX5_has, Cond.static yX5_has, Cond.code yX5_has cX5_has 2 (some .boolean), Cond.methodLink RL 61 yX4_run, Cond.instanceMethod yX4_run, Cond.selects RX4 yX4_run yX4_run, Cond.code yX4_run cX4_run 5 (some .int), Cond.fieldLink RX4 130 "AreaGoals" "clashingKinds" "I", Cond.fieldLink RX4 133 "AreaGoals" "cellsBefore" "I", Cond.constantLong RX4 148 (4096), Cond.methodLink RX4 126 yX4_findClashes, Cond.instanceMethod yX4_findClashes, Cond.selects RX4 yX4_findClashes yX4_findClashes]
def wsL_law_r10 : List Cond := [Cond.code yX4_findClashes cX4_findClashes 3 (some .int), Cond.instanceMethod yX2_openSet, Cond.selects RX2 yX2_openSet yX2_openSet, Cond.code yX2_openSet cX2_openSet 1 (some .int), Cond.fieldLink RX2 55 "AreaGoals$Sea" "barred" "I", Cond.instanceMethod yX3_begin, Cond.selects RX3 yX3_begin yX3_begin, Cond.code yX3_begin cX3_begin 3 none, Cond.fieldLink RX3 22 "AreaGoals$Tally" "cells" "I", Cond.fieldLink RX3 26 "AreaGoals$Tally" "farPairs" "I", Cond.fieldLink RX3 29 "AreaGoals$Tally" "cellCosts" "J", Cond.fieldLink RX3 33 "AreaGoals$Tally" "borderLength" "J", Cond.methodLink RX3 43 yX3_exchange, Cond.instanceMethod yX3_exchange, Cond.selects RX3 yX3_exchange yX3_exchange, Cond.code yX3_exchange cX3_exchange 5 none, Cond.methodLink RX3 51 yJ6_bitCount_0f7a4, Cond.static yJ6_bitCount_0f7a4, Cond.initialized RJ6, Cond.code yJ6_bitCount_0f7a4 cJ6_bitCount_0f7a4 1 (some .int), Cond.constant RJ6 265 (1431655765), Cond.constant RJ6 266 (858993459), Cond.constant RJ6 267 (252645135), Cond.methodLink RX3 60 yX3_borderGainedBy]
def wsL_law_r11 : List Cond := [Cond.instanceMethod yX3_borderGainedBy, Cond.selects RX3 yX3_borderGainedBy yX3_borderGainedBy, Cond.code yX3_borderGainedBy cX3_borderGainedBy 8 (some .long), Cond.instanceMethod yX3_meetsGoal, Cond.selects RX3 yX3_meetsGoal yX3_meetsGoal, Cond.code yX3_meetsGoal cX3_meetsGoal 2 (some .boolean), Cond.instanceMethod yX0_clear, Cond.selects RX0 yX0_clear yX0_clear, Cond.code yX0_clear cX0_clear 1 none, Cond.fieldLink RX0 17 "AreaGoals$Choice" "there" "Z", Cond.fieldLink RX0 21 "AreaGoals$Choice" "cells" "I", Cond.instanceMethod yX2_freeSet, Cond.selects RX2 yX2_freeSet yX2_freeSet, Cond.code yX2_freeSet cX2_freeSet 1 (some .int), Cond.fieldLink RX2 62 "AreaGoals$Sea" "needed" "I", Cond.methodLink RX2 58 yX2_openSet, Cond.methodLink RX4 142 yJ6_bitCount_0f7a4, Cond.instanceMethod yX2_costsOf, Cond.selects RX2 yX2_costsOf yX2_costsOf, Cond.code yX2_costsOf cX2_costsOf 5 (some .long), Cond.methodLink RX4 154 yX4_search, Cond.instanceMethod yX4_search, Cond.selects RX4 yX4_search yX4_search, Cond.code yX4_search cX4_search 5 none]
def wsL_law_r12 : List Cond := [Cond.methodLink RX4 235 yX4_listFreeCells, Cond.instanceMethod yX4_listFreeCells, Cond.selects RX4 yX4_listFreeCells yX4_listFreeCells, Cond.code yX4_listFreeCells cX4_listFreeCells 4 (some .int), Cond.methodLink RX4 238 yX4_considerTally, Cond.instanceMethod yX4_considerTally, Cond.selects RX4 yX4_considerTally yX4_considerTally, Cond.code yX4_considerTally cX4_considerTally 3 none, Cond.instanceMethod yX3_price, Cond.selects RX3 yX3_price yX3_price, Cond.code yX3_price cX3_price 1 (some .long), Cond.instanceMethod yX0_isBeatenBy, Cond.selects RX0 yX0_isBeatenBy yX0_isBeatenBy, Cond.code yX0_isBeatenBy cX0_isBeatenBy 6 (some .boolean), Cond.methodLink RX0 25 yJ6_bitCount_0f7a4, Cond.instanceMethod yX3_stands, Cond.selects RX3 yX3_stands yX3_stands, Cond.code yX3_stands cX3_stands 1 (some .boolean), Cond.methodLink RX3 81 yX3_meetsGoals, Cond.instanceMethod yX3_meetsGoals, Cond.selects RX3 yX3_meetsGoals yX3_meetsGoals, Cond.code yX3_meetsGoals cX3_meetsGoals 2 (some .boolean), Cond.methodLink RX3 88 yX3_meetsGoal, Cond.methodLink RX3 85 yX3_isFair]
def wsL_law_r13 : List Cond := [Cond.instanceMethod yX3_isFair, Cond.selects RX3 yX3_isFair yX3_isFair, Cond.code yX3_isFair cX3_isFair 2 (some .boolean), Cond.instanceMethod yX0_take, Cond.selects RX0 yX0_take yX0_take, Cond.code yX0_take cX0_take 4 none, Cond.methodLink RL 64 yX5_run, Cond.instanceMethod yX5_run, Cond.selects RX5 yX5_run yX5_run, Cond.code yX5_run cX5_run 16 (some .int), Cond.fieldLink RX5 133 "AreaGoalsModel" "hasRun" "Z", Cond.fieldLink RX5 136 "AreaGoalsModel" "clashes" "I", Cond.fieldLink RX5 146 "AreaGoalsModel" "bound" "J", Cond.fieldLink RX5 149 "AreaGoalsModel" "answer" "I", Cond.constantLong RX5 161 (-1), Cond.methodLink RX5 139 yX5_open, Cond.instanceMethod yX5_open, Cond.selects RX5 yX5_open yX5_open, Cond.code yX5_open cX5_open 3 (some .int), Cond.methodLink RX5 111 yX5_meets, Cond.instanceMethod yX5_meets, Cond.selects RX5 yX5_meets yX5_meets, Cond.code yX5_meets cX5_meets 3 (some .boolean), Cond.methodLink RX5 99 yX5_amount]
def wsL_law_r14 : List Cond := [Cond.instanceMethod yX5_amount, Cond.selects RX5 yX5_amount yX5_amount, Cond.code yX5_amount cX5_amount 6 (some .long), Cond.methodLink RX5 103 yX5_all, Cond.instanceMethod yX5_all, Cond.selects RX5 yX5_all yX5_all, Cond.code yX5_all cX5_all 1 (some .int), Cond.methodLink RX5 142 yX5_become, Cond.instanceMethod yX5_become, Cond.selects RX5 yX5_become yX5_become, Cond.code yX5_become cX5_become 5 none, Cond.fieldLink RX5 127 "AreaGoalsModel" "earlier" "I", Cond.fieldLink RX5 130 "AreaGoalsModel" "cost" "J", Cond.methodLink RX5 152 yX5_costOf, Cond.instanceMethod yX5_costOf, Cond.selects RX5 yX5_costOf yX5_costOf, Cond.code yX5_costOf cX5_costOf 5 (some .long), Cond.methodLink RX5 117 yX5_borderOf, Cond.instanceMethod yX5_borderOf, Cond.selects RX5 yX5_borderOf yX5_borderOf, Cond.code yX5_borderOf cX5_borderOf 6 (some .long), Cond.methodLink RX5 155 yX5_isBefore, Cond.instanceMethod yX5_isBefore, Cond.selects RX5 yX5_isBefore yX5_isBefore]
def wsL_law_r15 : List Cond := [Cond.code yX5_isBefore cX5_isBefore 6 (some .boolean), Cond.methodLink RX5 107 yX5_count, Cond.instanceMethod yX5_count, Cond.selects RX5 yX5_count yX5_count, Cond.code yX5_count cX5_count 4 (some .int), Cond.methodLink RX5 158 yX5_stands, Cond.instanceMethod yX5_stands, Cond.selects RX5 yX5_stands yX5_stands, Cond.code yX5_stands cX5_stands 4 (some .boolean), Cond.fieldLink RX5 90 "AreaGoalsModel" "least" "I", Cond.fieldLink RX5 80 "AreaGoalsModel" "isFair" "Z", Cond.fieldLink RX5 87 "AreaGoalsModel" "fairBelow" "J", Cond.fieldLink RX5 84 "AreaGoalsModel" "fairAbove" "J", Cond.methodLink RX5 114 yX5_hoursIn, Cond.instanceMethod yX5_hoursIn, Cond.selects RX5 yX5_hoursIn yX5_hoursIn, Cond.code yX5_hoursIn cX5_hoursIn 6 (some .long), Cond.methodLink RL 65 yX4_chosen, Cond.instanceMethod yX4_chosen, Cond.selects RX4 yX4_chosen yX4_chosen, Cond.code yX4_chosen cX4_chosen 2 (some .boolean), Cond.methodLink RL 68 yX5_chosen, Cond.instanceMethod yX5_chosen, Cond.selects RX5 yX5_chosen yX5_chosen]
def wsL_law_r16 : List Cond := [Cond.code yX5_chosen cX5_chosen 2 (some .boolean), Cond.methodLink RL 69 yX4_cost, Cond.instanceMethod yX4_cost, Cond.selects RX4 yX4_cost yX4_cost, Cond.code yX4_cost cX4_cost 1 (some .long), Cond.methodLink RL 73 yX5_cost, Cond.instanceMethod yX5_cost, Cond.selects RX5 yX5_cost yX5_cost, Cond.code yX5_cost cX5_cost 1 (some .long), Cond.methodLink RL 74 yX4_bound, Cond.instanceMethod yX4_bound, Cond.selects RX4 yX4_bound yX4_bound, Cond.code yX4_bound cX4_bound 1 (some .long), Cond.methodLink RL 77 yX5_bound, Cond.instanceMethod yX5_bound, Cond.selects RX5 yX5_bound yX5_bound, Cond.code yX5_bound cX5_bound 1 (some .long), Cond.methodLink RL 78 yX4_met, Cond.instanceMethod yX4_met, Cond.selects RX4 yX4_met yX4_met, Cond.code yX4_met cX4_met 3 (some .long), Cond.methodLink RX4 168 yX4_partOf, Cond.static yX4_partOf, Cond.code yX4_partOf cX4_partOf 7 (some .long)]
def wsL_law_r17 : List Cond := [Cond.methodLink RX4 225 yX4_commonDivisor, Cond.static yX4_commonDivisor, Cond.code yX4_commonDivisor cX4_commonDivisor 11 (some .long), Cond.methodLink RL 82 yX5_met, Cond.instanceMethod yX5_met, Cond.selects RX5 yX5_met yX5_met, Cond.code yX5_met cX5_met 3 (some .long), Cond.methodLink RX5 179 yX5_part, Cond.static yX5_part, Cond.code yX5_part cX5_part 11 (some .long), Cond.methodLink RL 83 yX4_clash, Cond.instanceMethod yX4_clash, Cond.selects RX4 yX4_clash yX4_clash, Cond.code yX4_clash cX4_clash 2 (some .int), Cond.methodLink RX4 172 yX4_placeOfBit, Cond.static yX4_placeOfBit, Cond.code yX4_placeOfBit cX4_placeOfBit 4 (some .int), Cond.methodLink RL 87 yX5_clash, Cond.instanceMethod yX5_clash, Cond.selects RX5 yX5_clash yX5_clash, Cond.code yX5_clash cX5_clash 4 (some .int), Cond.methodLink RL 88 yX4_proved, Cond.instanceMethod yX4_proved, Cond.selects RX4 yX4_proved yX4_proved]
def wsL_law_r18 : List Cond := [Cond.code yX4_proved cX4_proved 1 (some .boolean), Cond.methodLink RL 92 yX5_proved, Cond.instanceMethod yX5_proved, Cond.selects RX5 yX5_proved yX5_proved, Cond.code yX5_proved cX5_proved 1 (some .boolean), Cond.methodLink RL 93 yX4_improve, Cond.instanceMethod yX4_improve, Cond.selects RX4 yX4_improve yX4_improve, Cond.code yX4_improve cX4_improve 3 (some .int), Cond.methodLink RX4 176 yX4_drawnMoves, Cond.instanceMethod yX4_drawnMoves, Cond.selects RX4 yX4_drawnMoves yX4_drawnMoves, Cond.code yX4_drawnMoves cX4_drawnMoves 8 (some .int), Cond.instanceMethod yX1_next, Cond.selects RX1 yX1_next yX1_next, Cond.code yX1_next cX1_next 1 (some .long), Cond.methodLink RL 96 yX5_improve, Cond.instanceMethod yX5_improve, Cond.selects RX5 yX5_improve yX5_improve, Cond.code yX5_improve cX5_improve 2 (some .int), Cond.fieldLink RX5 163 "AreaGoalsModel" "tried" "I", Cond.fieldLink RX5 166 "AreaGoalsModel" "triedCost" "J", Cond.fieldLink RX5 169 "AreaGoalsModel" "kept" "I", Cond.methodLink RX5 175 yX5_steps]
def wsL_law_r19 : List Cond := [Cond.instanceMethod yX5_steps, Cond.selects RX5 yX5_steps yX5_steps, Cond.code yX5_steps cX5_steps 8 (some .long), Cond.methodLink RX5 172 yX5_next, Cond.static yX5_next, Cond.code yX5_next cX5_next 4 (some .long), Cond.methodLink RL 97 yX4_often, Cond.instanceMethod yX4_often, Cond.selects RX4 yX4_often yX4_often, Cond.code yX4_often cX4_often 6 (some .long), Cond.methodLink RL 100 yX5_often, Cond.instanceMethod yX5_often, Cond.selects RX5 yX5_often yX5_often, Cond.code yX5_often cX5_often 8 (some .long), Cond.methodLink RL 101 yX4_port, Cond.instanceMethod yX4_port, Cond.selects RX4 yX4_port yX4_port, Cond.code yX4_port cX4_port 5 (some .boolean), Cond.methodLink RX4 188 yX4_isPort, Cond.static yX4_isPort, Cond.code yX4_isPort cX4_isPort 1 (some .boolean), Cond.instanceMethod yX2_putHours, Cond.selects RX2 yX2_putHours yX2_putHours, Cond.code yX2_putHours cX2_putHours 6 none]
def wsL_law_r20 : List Cond := [Cond.methodLink RL 104 yX5_port, Cond.instanceMethod yX5_port, Cond.selects RX5 yX5_port yX5_port, Cond.code yX5_port cX5_port 5 (some .boolean), Cond.methodLink RX5 77 yX5_isPort, Cond.static yX5_isPort, Cond.code yX5_isPort cX5_isPort 1 (some .boolean), Cond.methodLink RL 105 yX4_loss, Cond.instanceMethod yX4_loss, Cond.selects RX4 yX4_loss yX4_loss, Cond.code yX4_loss cX4_loss 3 (some .long), Cond.methodLink RL 108 yX5_loss, Cond.instanceMethod yX5_loss, Cond.selects RX5 yX5_loss yX5_loss, Cond.code yX5_loss cX5_loss 3 (some .long), Cond.methodLink RL 109 yX4_fair, Cond.instanceMethod yX4_fair, Cond.selects RX4 yX4_fair yX4_fair, Cond.code yX4_fair cX4_fair 5 (some .boolean), Cond.methodLink RL 113 yX5_fair, Cond.instanceMethod yX5_fair, Cond.selects RX5 yX5_fair yX5_fair, Cond.code yX5_fair cX5_fair 5 (some .boolean), Cond.methodLink RL 114 yX4_border]
def wsL_law_r21 : List Cond := [Cond.instanceMethod yX4_border, Cond.selects RX4 yX4_border yX4_border, Cond.code yX4_border cX4_border 1 (some .long), Cond.methodLink RL 117 yX5_border, Cond.instanceMethod yX5_border, Cond.selects RX5 yX5_border yX5_border, Cond.code yX5_border cX5_border 1 (some .long), Cond.methodLink RL 118 yX4_size, Cond.instanceMethod yX4_size, Cond.selects RX4 yX4_size yX4_size, Cond.code yX4_size cX4_size 2 (some .int), Cond.methodLink RL 121 yX5_size, Cond.instanceMethod yX5_size, Cond.selects RX5 yX5_size yX5_size, Cond.code yX5_size cX5_size 2 (some .int), Cond.methodLink RL 122 yX4_year, Cond.instanceMethod yX4_year, Cond.selects RX4 yX4_year yX4_year, Cond.code yX4_year cX4_year 4 (some .int), Cond.instanceMethod yX2_comesBefore, Cond.selects RX2 yX2_comesBefore yX2_comesBefore, Cond.code yX2_comesBefore cX2_comesBefore 3 (some .boolean), Cond.methodLink RL 125 yX5_year, Cond.instanceMethod yX5_year]
def wsL_law_r22 : List Cond := [Cond.selects RX5 yX5_year yX5_year, Cond.code yX5_year cX5_year 4 (some .int), Cond.methodLink RX5 183 yX5_chosen, Cond.methodLink RL 126 yX4_wind, Cond.instanceMethod yX4_wind, Cond.selects RX4 yX4_wind yX4_wind, Cond.code yX4_wind cX4_wind 4 (some .boolean), Cond.constantLong RX4 215 (10000000), Cond.methodLink RL 130 yX5_wind, Cond.instanceMethod yX5_wind, Cond.selects RX5 yX5_wind yX5_wind, Cond.code yX5_wind cX5_wind 4 (some .boolean), Cond.constantLong RX5 93 (10000000), Cond.methodLink RL 131 yX4_unlike, Cond.instanceMethod yX4_unlike, Cond.selects RX4 yX4_unlike yX4_unlike, Cond.code yX4_unlike cX4_unlike 3 (some .int), Cond.methodLink RL 134 yX5_unlike, Cond.instanceMethod yX5_unlike, Cond.selects RX5 yX5_unlike yX5_unlike, Cond.code yX5_unlike cX5_unlike 4 (some .int), Cond.methodLink RL 135 yX4_far, Cond.instanceMethod yX4_far, Cond.selects RX4 yX4_far yX4_far]
def wsL_law_r23 : List Cond := [Cond.code yX4_far cX4_far 4 (some .boolean), Cond.methodLink RL 139 yX5_far, Cond.instanceMethod yX5_far, Cond.selects RX5 yX5_far yX5_far, Cond.code yX5_far cX5_far 4 (some .boolean), Cond.methodLink RL 140 yX4_tie, Cond.instanceMethod yX4_tie, Cond.selects RX4 yX4_tie yX4_tie, Cond.code yX4_tie cX4_tie 2 (some .int), Cond.methodLink RX4 220 yX4_findExchangeable, Cond.instanceMethod yX4_findExchangeable, Cond.selects RX4 yX4_findExchangeable yX4_findExchangeable, Cond.code yX4_findExchangeable cX4_findExchangeable 6 (some .int), Cond.methodLink RL 143 yX5_tie, Cond.instanceMethod yX5_tie, Cond.selects RX5 yX5_tie yX5_tie, Cond.code yX5_tie cX5_tie 5 (some .int)]
def wsL_law : List Cond := (wsL_law_r1 ++ (wsL_law_r2 ++ (wsL_law_r3 ++ (wsL_law_r4 ++ (wsL_law_r5 ++ (wsL_law_r6 ++ (wsL_law_r7 ++ (wsL_law_r8 ++ (wsL_law_r9 ++ (wsL_law_r10 ++ (wsL_law_r11 ++ (wsL_law_r12 ++ (wsL_law_r13 ++ (wsL_law_r14 ++ (wsL_law_r15 ++ (wsL_law_r16 ++ (wsL_law_r17 ++ (wsL_law_r18 ++ (wsL_law_r19 ++ (wsL_law_r20 ++ (wsL_law_r21 ++ (wsL_law_r22 ++ wsL_law_r23)))))))))))))))))))))) ++ wsX40 ++ wsX50 ++ wsX20 ++ wsX30 ++ wsX10 ++ wsX00 ++ ([] : List Cond)
theorem inlX0 : ∀ w ∈ wsX00, w ∈ wsL_law := fun _ h => List.mem_append_left _ (List.mem_append_right _ h)
theorem inlX1 : ∀ w ∈ wsX10, w ∈ wsL_law := fun _ h => List.mem_append_left _ (List.mem_append_left _ (List.mem_append_right _ h))
theorem inlX2 : ∀ w ∈ wsX20, w ∈ wsL_law := fun _ h => List.mem_append_left _ (List.mem_append_left _ (List.mem_append_left _ (List.mem_append_left _ (List.mem_append_right _ h))))
theorem inlX3 : ∀ w ∈ wsX30, w ∈ wsL_law := fun _ h => List.mem_append_left _ (List.mem_append_left _ (List.mem_append_left _ (List.mem_append_right _ h)))
theorem inlX4 : ∀ w ∈ wsX40, w ∈ wsL_law := fun _ h => List.mem_append_left _ (List.mem_append_left _ (List.mem_append_left _ (List.mem_append_left _ (List.mem_append_left _ (List.mem_append_left _ (List.mem_append_right _ h))))))
theorem inlX5 : ∀ w ∈ wsX50, w ∈ wsL_law := fun _ h => List.mem_append_left _ (List.mem_append_left _ (List.mem_append_left _ (List.mem_append_left _ (List.mem_append_left _ (List.mem_append_right _ h)))))
abbrev vwCl : List vw_C := [(RX0, TX0, 3), (RX1, TX1, 1), (RX2, TX2, 16), (RX3, TX3, 7), (RX4, TX4, 10), (RX5, TX5, 27)]
end
section
theorem dX0_init_0 : decode cX0_init 0 = .ok (.aload_n 0, 1) := by decide +kernel
theorem dX0_init_1 : decode cX0_init 1 = .ok (.invokespecial 3, 3) := by decide +kernel
theorem dX0_init_4 : decode cX0_init 4 = .ok (.aload_n 0, 1) := by decide +kernel
theorem dX0_init_5 : decode cX0_init 5 = .ok (.ldc2_w 9, 3) := by decide +kernel
theorem dX0_init_8 : decode cX0_init 8 = .ok (.putfield 11, 3) := by decide +kernel
theorem dX0_init_11 : decode cX0_init 11 = .ok (.return_, 1) := by decide +kernel
theorem dX0_clear_0 : decode cX0_clear 0 = .ok (.aload_n 0, 1) := by decide +kernel
theorem dX0_clear_1 : decode cX0_clear 1 = .ok (.iconst 0, 1) := by decide +kernel
theorem dX0_clear_2 : decode cX0_clear 2 = .ok (.putfield 17, 3) := by decide +kernel
theorem dX0_clear_5 : decode cX0_clear 5 = .ok (.aload_n 0, 1) := by decide +kernel
theorem dX0_clear_6 : decode cX0_clear 6 = .ok (.iconst 0, 1) := by decide +kernel
theorem dX0_clear_7 : decode cX0_clear 7 = .ok (.putfield 21, 3) := by decide +kernel
theorem dX0_clear_10 : decode cX0_clear 10 = .ok (.aload_n 0, 1) := by decide +kernel
theorem dX0_clear_11 : decode cX0_clear 11 = .ok (.ldc2_w 9, 3) := by decide +kernel
theorem dX0_clear_14 : decode cX0_clear 14 = .ok (.putfield 11, 3) := by decide +kernel
theorem dX0_clear_17 : decode cX0_clear 17 = .ok (.return_, 1) := by decide +kernel
theorem dX0_take_0 : decode cX0_take 0 = .ok (.aload_n 0, 1) := by decide +kernel
theorem dX0_take_1 : decode cX0_take 1 = .ok (.iconst 1, 1) := by decide +kernel
theorem dX0_take_2 : decode cX0_take 2 = .ok (.putfield 17, 3) := by decide +kernel
theorem dX0_take_5 : decode cX0_take 5 = .ok (.aload_n 0, 1) := by decide +kernel
theorem dX0_take_6 : decode cX0_take 6 = .ok (.iload_n 1, 1) := by decide +kernel
theorem dX0_take_7 : decode cX0_take 7 = .ok (.putfield 21, 3) := by decide +kernel
theorem dX0_take_10 : decode cX0_take 10 = .ok (.aload_n 0, 1) := by decide +kernel
theorem dX0_take_11 : decode cX0_take 11 = .ok (.lload_n 2, 1) := by decide +kernel
theorem dX0_take_12 : decode cX0_take 12 = .ok (.putfield 11, 3) := by decide +kernel
theorem dX0_take_15 : decode cX0_take 15 = .ok (.return_, 1) := by decide +kernel
theorem dX0_isBeatenBy_0 : decode cX0_isBeatenBy 0 = .ok (.aload_n 0, 1) := by decide +kernel
theorem dX0_isBeatenBy_1 : decode cX0_isBeatenBy 1 = .ok (.getfield 17, 3) := by decide +kernel
theorem dX0_isBeatenBy_4 : decode cX0_isBeatenBy 4 = .ok (.ifCond .ne 5, 3) := by decide +kernel
theorem dX0_isBeatenBy_7 : decode cX0_isBeatenBy 7 = .ok (.iconst 1, 1) := by decide +kernel
theorem dX0_isBeatenBy_8 : decode cX0_isBeatenBy 8 = .ok (.ireturn, 1) := by decide +kernel
theorem dX0_isBeatenBy_9 : decode cX0_isBeatenBy 9 = .ok (.lload_n 2, 1) := by decide +kernel
theorem dX0_isBeatenBy_10 : decode cX0_isBeatenBy 10 = .ok (.aload_n 0, 1) := by decide +kernel
theorem dX0_isBeatenBy_11 : decode cX0_isBeatenBy 11 = .ok (.getfield 11, 3) := by decide +kernel
theorem dX0_isBeatenBy_14 : decode cX0_isBeatenBy 14 = .ok (.lcmp, 1) := by decide +kernel
theorem dX0_isBeatenBy_15 : decode cX0_isBeatenBy 15 = .ok (.ifCond .eq 18, 3) := by decide +kernel
theorem dX0_isBeatenBy_18 : decode cX0_isBeatenBy 18 = .ok (.lload_n 2, 1) := by decide +kernel
theorem dX0_isBeatenBy_19 : decode cX0_isBeatenBy 19 = .ok (.aload_n 0, 1) := by decide +kernel
theorem dX0_isBeatenBy_20 : decode cX0_isBeatenBy 20 = .ok (.getfield 11, 3) := by decide +kernel
theorem dX0_isBeatenBy_23 : decode cX0_isBeatenBy 23 = .ok (.lcmp, 1) := by decide +kernel
theorem dX0_isBeatenBy_24 : decode cX0_isBeatenBy 24 = .ok (.ifCond .ge 7, 3) := by decide +kernel
theorem dX0_isBeatenBy_27 : decode cX0_isBeatenBy 27 = .ok (.iconst 1, 1) := by decide +kernel
theorem dX0_isBeatenBy_28 : decode cX0_isBeatenBy 28 = .ok (.goto 4, 3) := by decide +kernel
theorem dX0_isBeatenBy_31 : decode cX0_isBeatenBy 31 = .ok (.iconst 0, 1) := by decide +kernel
theorem dX0_isBeatenBy_32 : decode cX0_isBeatenBy 32 = .ok (.ireturn, 1) := by decide +kernel
theorem dX0_isBeatenBy_33 : decode cX0_isBeatenBy 33 = .ok (.iload_n 1, 1) := by decide +kernel
theorem dX0_isBeatenBy_34 : decode cX0_isBeatenBy 34 = .ok (.invokestatic 25, 3) := by decide +kernel
theorem dX0_isBeatenBy_37 : decode cX0_isBeatenBy 37 = .ok (.aload_n 0, 1) := by decide +kernel
theorem dX0_isBeatenBy_38 : decode cX0_isBeatenBy 38 = .ok (.getfield 21, 3) := by decide +kernel
theorem dX0_isBeatenBy_41 : decode cX0_isBeatenBy 41 = .ok (.invokestatic 25, 3) := by decide +kernel
theorem dX0_isBeatenBy_44 : decode cX0_isBeatenBy 44 = .ok (.isub, 1) := by decide +kernel
theorem dX0_isBeatenBy_45 : decode cX0_isBeatenBy 45 = .ok (.istore 4, 2) := by decide +kernel
theorem dX0_isBeatenBy_47 : decode cX0_isBeatenBy 47 = .ok (.iload_n 1, 1) := by decide +kernel
theorem dX0_isBeatenBy_48 : decode cX0_isBeatenBy 48 = .ok (.aload_n 0, 1) := by decide +kernel
theorem dX0_isBeatenBy_49 : decode cX0_isBeatenBy 49 = .ok (.getfield 21, 3) := by decide +kernel
theorem dX0_isBeatenBy_52 : decode cX0_isBeatenBy 52 = .ok (.ixor, 1) := by decide +kernel
theorem dX0_isBeatenBy_53 : decode cX0_isBeatenBy 53 = .ok (.istore 5, 2) := by decide +kernel
theorem dX0_isBeatenBy_55 : decode cX0_isBeatenBy 55 = .ok (.iload 4, 2) := by decide +kernel
theorem dX0_isBeatenBy_57 : decode cX0_isBeatenBy 57 = .ok (.ifCond .eq 16, 3) := by decide +kernel
theorem dX0_isBeatenBy_60 : decode cX0_isBeatenBy 60 = .ok (.iload 4, 2) := by decide +kernel
theorem dX0_isBeatenBy_62 : decode cX0_isBeatenBy 62 = .ok (.ifCond .ge 7, 3) := by decide +kernel
theorem dX0_isBeatenBy_65 : decode cX0_isBeatenBy 65 = .ok (.iconst 1, 1) := by decide +kernel
theorem dX0_isBeatenBy_66 : decode cX0_isBeatenBy 66 = .ok (.goto 23, 3) := by decide +kernel
theorem dX0_isBeatenBy_69 : decode cX0_isBeatenBy 69 = .ok (.iconst 0, 1) := by decide +kernel
theorem dX0_isBeatenBy_70 : decode cX0_isBeatenBy 70 = .ok (.goto 19, 3) := by decide +kernel
theorem dX0_isBeatenBy_73 : decode cX0_isBeatenBy 73 = .ok (.iload 5, 2) := by decide +kernel
theorem dX0_isBeatenBy_75 : decode cX0_isBeatenBy 75 = .ok (.iload 5, 2) := by decide +kernel
theorem dX0_isBeatenBy_77 : decode cX0_isBeatenBy 77 = .ok (.ineg, 1) := by decide +kernel
theorem dX0_isBeatenBy_78 : decode cX0_isBeatenBy 78 = .ok (.iand, 1) := by decide +kernel
theorem dX0_isBeatenBy_79 : decode cX0_isBeatenBy 79 = .ok (.iload_n 1, 1) := by decide +kernel
theorem dX0_isBeatenBy_80 : decode cX0_isBeatenBy 80 = .ok (.iand, 1) := by decide +kernel
theorem dX0_isBeatenBy_81 : decode cX0_isBeatenBy 81 = .ok (.ifCond .eq 7, 3) := by decide +kernel
theorem dX0_isBeatenBy_84 : decode cX0_isBeatenBy 84 = .ok (.iconst 1, 1) := by decide +kernel
theorem dX0_isBeatenBy_85 : decode cX0_isBeatenBy 85 = .ok (.goto 4, 3) := by decide +kernel
theorem dX0_isBeatenBy_88 : decode cX0_isBeatenBy 88 = .ok (.iconst 0, 1) := by decide +kernel
theorem dX0_isBeatenBy_89 : decode cX0_isBeatenBy 89 = .ok (.ireturn, 1) := by decide +kernel
theorem dX1_init_0 : decode cX1_init 0 = .ok (.aload_n 0, 1) := by decide +kernel
theorem dX1_init_1 : decode cX1_init 1 = .ok (.invokespecial 1, 3) := by decide +kernel
theorem dX1_init_4 : decode cX1_init 4 = .ok (.return_, 1) := by decide +kernel
theorem dX1_start_0 : decode cX1_start 0 = .ok (.aload_n 0, 1) := by decide +kernel
theorem dX1_start_1 : decode cX1_start 1 = .ok (.lload_n 1, 1) := by decide +kernel
theorem dX1_start_2 : decode cX1_start 2 = .ok (.lconst 0, 1) := by decide +kernel
theorem dX1_start_3 : decode cX1_start 3 = .ok (.lcmp, 1) := by decide +kernel
theorem dX1_start_4 : decode cX1_start 4 = .ok (.ifCond .ne 9, 3) := by decide +kernel
theorem dX1_start_7 : decode cX1_start 7 = .ok (.ldc2_w 9, 3) := by decide +kernel
theorem dX1_start_10 : decode cX1_start 10 = .ok (.goto 4, 3) := by decide +kernel
theorem dX1_start_13 : decode cX1_start 13 = .ok (.lload_n 1, 1) := by decide +kernel
theorem dX1_start_14 : decode cX1_start 14 = .ok (.putfield 11, 3) := by decide +kernel
theorem dX1_start_17 : decode cX1_start 17 = .ok (.return_, 1) := by decide +kernel
theorem dX1_next_0 : decode cX1_next 0 = .ok (.aload_n 0, 1) := by decide +kernel
theorem dX1_next_1 : decode cX1_next 1 = .ok (.dup, 1) := by decide +kernel
theorem dX1_next_2 : decode cX1_next 2 = .ok (.getfield 11, 3) := by decide +kernel
theorem dX1_next_5 : decode cX1_next 5 = .ok (.aload_n 0, 1) := by decide +kernel
theorem dX1_next_6 : decode cX1_next 6 = .ok (.getfield 11, 3) := by decide +kernel
theorem dX1_next_9 : decode cX1_next 9 = .ok (.bipush 13, 2) := by decide +kernel
theorem dX1_next_11 : decode cX1_next 11 = .ok (.lshl, 1) := by decide +kernel
theorem dX1_next_12 : decode cX1_next 12 = .ok (.lxor, 1) := by decide +kernel
theorem dX1_next_13 : decode cX1_next 13 = .ok (.putfield 11, 3) := by decide +kernel
theorem dX1_next_16 : decode cX1_next 16 = .ok (.aload_n 0, 1) := by decide +kernel
theorem dX1_next_17 : decode cX1_next 17 = .ok (.dup, 1) := by decide +kernel
theorem dX1_next_18 : decode cX1_next 18 = .ok (.getfield 11, 3) := by decide +kernel
theorem dX1_next_21 : decode cX1_next 21 = .ok (.aload_n 0, 1) := by decide +kernel
theorem dX1_next_22 : decode cX1_next 22 = .ok (.getfield 11, 3) := by decide +kernel
theorem dX1_next_25 : decode cX1_next 25 = .ok (.bipush 7, 2) := by decide +kernel
theorem dX1_next_27 : decode cX1_next 27 = .ok (.lushr, 1) := by decide +kernel
theorem dX1_next_28 : decode cX1_next 28 = .ok (.lxor, 1) := by decide +kernel
theorem dX1_next_29 : decode cX1_next 29 = .ok (.putfield 11, 3) := by decide +kernel
theorem dX1_next_32 : decode cX1_next 32 = .ok (.aload_n 0, 1) := by decide +kernel
theorem dX1_next_33 : decode cX1_next 33 = .ok (.dup, 1) := by decide +kernel
theorem dX1_next_34 : decode cX1_next 34 = .ok (.getfield 11, 3) := by decide +kernel
theorem dX1_next_37 : decode cX1_next 37 = .ok (.aload_n 0, 1) := by decide +kernel
theorem dX1_next_38 : decode cX1_next 38 = .ok (.getfield 11, 3) := by decide +kernel
theorem dX1_next_41 : decode cX1_next 41 = .ok (.bipush 17, 2) := by decide +kernel
theorem dX1_next_43 : decode cX1_next 43 = .ok (.lshl, 1) := by decide +kernel
theorem dX1_next_44 : decode cX1_next 44 = .ok (.lxor, 1) := by decide +kernel
theorem dX1_next_45 : decode cX1_next 45 = .ok (.putfield 11, 3) := by decide +kernel
theorem dX1_next_48 : decode cX1_next 48 = .ok (.aload_n 0, 1) := by decide +kernel
theorem dX1_next_49 : decode cX1_next 49 = .ok (.getfield 11, 3) := by decide +kernel
theorem dX1_next_52 : decode cX1_next 52 = .ok (.iconst 1, 1) := by decide +kernel
theorem dX1_next_53 : decode cX1_next 53 = .ok (.lushr, 1) := by decide +kernel
theorem dX1_next_54 : decode cX1_next 54 = .ok (.lreturn, 1) := by decide +kernel
theorem dX2_init_0 : decode cX2_init 0 = .ok (.aload_n 0, 1) := by decide +kernel
theorem dX2_init_1 : decode cX2_init 1 = .ok (.invokespecial 3, 3) := by decide +kernel
theorem dX2_init_4 : decode cX2_init 4 = .ok (.aload_n 0, 1) := by decide +kernel
theorem dX2_init_5 : decode cX2_init 5 = .ok (.bipush 24, 2) := by decide +kernel
theorem dX2_init_7 : decode cX2_init 7 = .ok (.newarray .long, 2) := by decide +kernel
theorem dX2_init_9 : decode cX2_init 9 = .ok (.putfield 9, 3) := by decide +kernel
theorem dX2_init_12 : decode cX2_init 12 = .ok (.aload_n 0, 1) := by decide +kernel
theorem dX2_init_13 : decode cX2_init 13 = .ok (.sipush 192, 3) := by decide +kernel
theorem dX2_init_16 : decode cX2_init 16 = .ok (.newarray .long, 2) := by decide +kernel
theorem dX2_init_18 : decode cX2_init 18 = .ok (.putfield 15, 3) := by decide +kernel
theorem dX2_init_21 : decode cX2_init 21 = .ok (.aload_n 0, 1) := by decide +kernel
theorem dX2_init_22 : decode cX2_init 22 = .ok (.bipush 96, 2) := by decide +kernel
theorem dX2_init_24 : decode cX2_init 24 = .ok (.newarray .long, 2) := by decide +kernel
theorem dX2_init_26 : decode cX2_init 26 = .ok (.putfield 18, 3) := by decide +kernel
theorem dX2_init_29 : decode cX2_init 29 = .ok (.aload_n 0, 1) := by decide +kernel
theorem dX2_init_30 : decode cX2_init 30 = .ok (.sipush 576, 3) := by decide +kernel
theorem dX2_init_33 : decode cX2_init 33 = .ok (.newarray .long, 2) := by decide +kernel
theorem dX2_init_35 : decode cX2_init 35 = .ok (.putfield 21, 3) := by decide +kernel
theorem dX2_init_38 : decode cX2_init 38 = .ok (.aload_n 0, 1) := by decide +kernel
theorem dX2_init_39 : decode cX2_init 39 = .ok (.bipush 24, 2) := by decide +kernel
theorem dX2_init_41 : decode cX2_init 41 = .ok (.newarray .int, 2) := by decide +kernel
theorem dX2_init_43 : decode cX2_init 43 = .ok (.putfield 24, 3) := by decide +kernel
theorem dX2_init_46 : decode cX2_init 46 = .ok (.aload_n 0, 1) := by decide +kernel
theorem dX2_init_47 : decode cX2_init 47 = .ok (.bipush 8, 2) := by decide +kernel
theorem dX2_init_49 : decode cX2_init 49 = .ok (.newarray .long, 2) := by decide +kernel
theorem dX2_init_51 : decode cX2_init 51 = .ok (.putfield 28, 3) := by decide +kernel
theorem dX2_init_54 : decode cX2_init 54 = .ok (.aload_n 0, 1) := by decide +kernel
theorem dX2_init_55 : decode cX2_init 55 = .ok (.iconst 4, 1) := by decide +kernel
theorem dX2_init_56 : decode cX2_init 56 = .ok (.newarray .long, 2) := by decide +kernel
theorem dX2_init_58 : decode cX2_init 58 = .ok (.putfield 31, 3) := by decide +kernel
theorem dX2_init_61 : decode cX2_init 61 = .ok (.aload_n 0, 1) := by decide +kernel
theorem dX2_init_62 : decode cX2_init 62 = .ok (.bipush 8, 2) := by decide +kernel
theorem dX2_init_64 : decode cX2_init 64 = .ok (.newarray .long, 2) := by decide +kernel
theorem dX2_init_66 : decode cX2_init 66 = .ok (.putfield 34, 3) := by decide +kernel
theorem dX2_init_69 : decode cX2_init 69 = .ok (.aload_n 0, 1) := by decide +kernel
theorem dX2_init_70 : decode cX2_init 70 = .ok (.bipush 8, 2) := by decide +kernel
theorem dX2_init_72 : decode cX2_init 72 = .ok (.newarray .long, 2) := by decide +kernel
theorem dX2_init_74 : decode cX2_init 74 = .ok (.putfield 37, 3) := by decide +kernel
theorem dX2_init_77 : decode cX2_init 77 = .ok (.iconst 0, 1) := by decide +kernel
theorem dX2_init_78 : decode cX2_init 78 = .ok (.istore_n 1, 1) := by decide +kernel
theorem dX2_init_79 : decode cX2_init 79 = .ok (.iload_n 1, 1) := by decide +kernel
theorem dX2_init_80 : decode cX2_init 80 = .ok (.bipush 8, 2) := by decide +kernel
theorem dX2_init_82 : decode cX2_init 82 = .ok (.if_icmp .ge 16, 3) := by decide +kernel
theorem dX2_init_85 : decode cX2_init 85 = .ok (.aload_n 0, 1) := by decide +kernel
theorem dX2_init_86 : decode cX2_init 86 = .ok (.getfield 37, 3) := by decide +kernel
theorem dX2_init_89 : decode cX2_init 89 = .ok (.iload_n 1, 1) := by decide +kernel
theorem dX2_init_90 : decode cX2_init 90 = .ok (.lconst 1, 1) := by decide +kernel
theorem dX2_init_91 : decode cX2_init 91 = .ok (.lastore, 1) := by decide +kernel
theorem dX2_init_92 : decode cX2_init 92 = .ok (.iinc 1 1, 3) := by decide +kernel
theorem dX2_init_95 : decode cX2_init 95 = .ok (.goto (-16), 3) := by decide +kernel
theorem dX2_init_98 : decode cX2_init 98 = .ok (.aload_n 0, 1) := by decide +kernel
theorem dX2_init_99 : decode cX2_init 99 = .ok (.lconst 1, 1) := by decide +kernel
theorem dX2_init_100 : decode cX2_init 100 = .ok (.putfield 40, 3) := by decide +kernel
theorem dX2_init_103 : decode cX2_init 103 = .ok (.aload_n 0, 1) := by decide +kernel
theorem dX2_init_104 : decode cX2_init 104 = .ok (.lconst 1, 1) := by decide +kernel
theorem dX2_init_105 : decode cX2_init 105 = .ok (.putfield 44, 3) := by decide +kernel
theorem dX2_init_108 : decode cX2_init 108 = .ok (.return_, 1) := by decide +kernel
theorem dX2_hasCell_0 : decode cX2_hasCell 0 = .ok (.iload_n 1, 1) := by decide +kernel
theorem dX2_hasCell_1 : decode cX2_hasCell 1 = .ok (.ifCond .lt 15, 3) := by decide +kernel
theorem dX2_hasCell_4 : decode cX2_hasCell 4 = .ok (.iload_n 1, 1) := by decide +kernel
theorem dX2_hasCell_5 : decode cX2_hasCell 5 = .ok (.aload_n 0, 1) := by decide +kernel
theorem dX2_hasCell_6 : decode cX2_hasCell 6 = .ok (.getfield 47, 3) := by decide +kernel
theorem dX2_hasCell_9 : decode cX2_hasCell 9 = .ok (.if_icmp .ge 7, 3) := by decide +kernel
theorem dX2_hasCell_12 : decode cX2_hasCell 12 = .ok (.iconst 1, 1) := by decide +kernel
theorem dX2_hasCell_13 : decode cX2_hasCell 13 = .ok (.goto 4, 3) := by decide +kernel
theorem dX2_hasCell_16 : decode cX2_hasCell 16 = .ok (.iconst 0, 1) := by decide +kernel
theorem dX2_hasCell_17 : decode cX2_hasCell 17 = .ok (.ireturn, 1) := by decide +kernel
theorem dX2_hasPair_0 : decode cX2_hasPair 0 = .ok (.aload_n 0, 1) := by decide +kernel
theorem dX2_hasPair_1 : decode cX2_hasPair 1 = .ok (.iload_n 1, 1) := by decide +kernel
theorem dX2_hasPair_2 : decode cX2_hasPair 2 = .ok (.invokevirtual 51, 3) := by decide +kernel
theorem dX2_hasPair_5 : decode cX2_hasPair 5 = .ok (.ifCond .eq 20, 3) := by decide +kernel
theorem dX2_hasPair_8 : decode cX2_hasPair 8 = .ok (.aload_n 0, 1) := by decide +kernel
theorem dX2_hasPair_9 : decode cX2_hasPair 9 = .ok (.iload_n 2, 1) := by decide +kernel
theorem dX2_hasPair_10 : decode cX2_hasPair 10 = .ok (.invokevirtual 51, 3) := by decide +kernel
theorem dX2_hasPair_13 : decode cX2_hasPair 13 = .ok (.ifCond .eq 12, 3) := by decide +kernel
theorem dX2_hasPair_16 : decode cX2_hasPair 16 = .ok (.iload_n 1, 1) := by decide +kernel
theorem dX2_hasPair_17 : decode cX2_hasPair 17 = .ok (.iload_n 2, 1) := by decide +kernel
theorem dX2_hasPair_18 : decode cX2_hasPair 18 = .ok (.if_icmp .eq 7, 3) := by decide +kernel
theorem dX2_hasPair_21 : decode cX2_hasPair 21 = .ok (.iconst 1, 1) := by decide +kernel
theorem dX2_hasPair_22 : decode cX2_hasPair 22 = .ok (.goto 4, 3) := by decide +kernel
theorem dX2_hasPair_25 : decode cX2_hasPair 25 = .ok (.iconst 0, 1) := by decide +kernel
theorem dX2_hasPair_26 : decode cX2_hasPair 26 = .ok (.ireturn, 1) := by decide +kernel
theorem dX2_putAmount_0 : decode cX2_putAmount 0 = .ok (.iload_n 1, 1) := by decide +kernel
theorem dX2_putAmount_1 : decode cX2_putAmount 1 = .ok (.bipush 8, 2) := by decide +kernel
theorem dX2_putAmount_3 : decode cX2_putAmount 3 = .ok (.imul, 1) := by decide +kernel
theorem dX2_putAmount_4 : decode cX2_putAmount 4 = .ok (.iload_n 2, 1) := by decide +kernel
theorem dX2_putAmount_5 : decode cX2_putAmount 5 = .ok (.iadd, 1) := by decide +kernel
theorem dX2_putAmount_6 : decode cX2_putAmount 6 = .ok (.istore 5, 2) := by decide +kernel
theorem dX2_putAmount_8 : decode cX2_putAmount 8 = .ok (.aload_n 0, 1) := by decide +kernel
theorem dX2_putAmount_9 : decode cX2_putAmount 9 = .ok (.getfield 28, 3) := by decide +kernel
theorem dX2_putAmount_12 : decode cX2_putAmount 12 = .ok (.iload_n 2, 1) := by decide +kernel
theorem dX2_putAmount_13 : decode cX2_putAmount 13 = .ok (.dup2, 1) := by decide +kernel
theorem dX2_putAmount_14 : decode cX2_putAmount 14 = .ok (.laload, 1) := by decide +kernel
theorem dX2_putAmount_15 : decode cX2_putAmount 15 = .ok (.lload_n 3, 1) := by decide +kernel
theorem dX2_putAmount_16 : decode cX2_putAmount 16 = .ok (.aload_n 0, 1) := by decide +kernel
theorem dX2_putAmount_17 : decode cX2_putAmount 17 = .ok (.getfield 15, 3) := by decide +kernel
theorem dX2_putAmount_20 : decode cX2_putAmount 20 = .ok (.iload 5, 2) := by decide +kernel
theorem dX2_putAmount_22 : decode cX2_putAmount 22 = .ok (.laload, 1) := by decide +kernel
theorem dX2_putAmount_23 : decode cX2_putAmount 23 = .ok (.lsub, 1) := by decide +kernel
theorem dX2_putAmount_24 : decode cX2_putAmount 24 = .ok (.ladd, 1) := by decide +kernel
theorem dX2_putAmount_25 : decode cX2_putAmount 25 = .ok (.lastore, 1) := by decide +kernel
theorem dX2_putAmount_26 : decode cX2_putAmount 26 = .ok (.aload_n 0, 1) := by decide +kernel
theorem dX2_putAmount_27 : decode cX2_putAmount 27 = .ok (.getfield 15, 3) := by decide +kernel
theorem dX2_putAmount_30 : decode cX2_putAmount 30 = .ok (.iload 5, 2) := by decide +kernel
theorem dX2_putAmount_32 : decode cX2_putAmount 32 = .ok (.lload_n 3, 1) := by decide +kernel
theorem dX2_putAmount_33 : decode cX2_putAmount 33 = .ok (.lastore, 1) := by decide +kernel
theorem dX2_putAmount_34 : decode cX2_putAmount 34 = .ok (.return_, 1) := by decide +kernel
theorem dX2_putHours_0 : decode cX2_putHours 0 = .ok (.iload_n 1, 1) := by decide +kernel
theorem dX2_putHours_1 : decode cX2_putHours 1 = .ok (.iconst 4, 1) := by decide +kernel
theorem dX2_putHours_2 : decode cX2_putHours 2 = .ok (.imul, 1) := by decide +kernel
theorem dX2_putHours_3 : decode cX2_putHours 3 = .ok (.iload_n 2, 1) := by decide +kernel
theorem dX2_putHours_4 : decode cX2_putHours 4 = .ok (.iadd, 1) := by decide +kernel
theorem dX2_putHours_5 : decode cX2_putHours 5 = .ok (.istore 5, 2) := by decide +kernel
theorem dX2_putHours_7 : decode cX2_putHours 7 = .ok (.aload_n 0, 1) := by decide +kernel
theorem dX2_putHours_8 : decode cX2_putHours 8 = .ok (.getfield 31, 3) := by decide +kernel
theorem dX2_putHours_11 : decode cX2_putHours 11 = .ok (.iload_n 2, 1) := by decide +kernel
theorem dX2_putHours_12 : decode cX2_putHours 12 = .ok (.dup2, 1) := by decide +kernel
theorem dX2_putHours_13 : decode cX2_putHours 13 = .ok (.laload, 1) := by decide +kernel
theorem dX2_putHours_14 : decode cX2_putHours 14 = .ok (.lload_n 3, 1) := by decide +kernel
theorem dX2_putHours_15 : decode cX2_putHours 15 = .ok (.aload_n 0, 1) := by decide +kernel
theorem dX2_putHours_16 : decode cX2_putHours 16 = .ok (.getfield 18, 3) := by decide +kernel
theorem dX2_putHours_19 : decode cX2_putHours 19 = .ok (.iload 5, 2) := by decide +kernel
theorem dX2_putHours_21 : decode cX2_putHours 21 = .ok (.laload, 1) := by decide +kernel
theorem dX2_putHours_22 : decode cX2_putHours 22 = .ok (.lsub, 1) := by decide +kernel
theorem dX2_putHours_23 : decode cX2_putHours 23 = .ok (.ladd, 1) := by decide +kernel
theorem dX2_putHours_24 : decode cX2_putHours 24 = .ok (.lastore, 1) := by decide +kernel
theorem dX2_putHours_25 : decode cX2_putHours 25 = .ok (.aload_n 0, 1) := by decide +kernel
theorem dX2_putHours_26 : decode cX2_putHours 26 = .ok (.getfield 18, 3) := by decide +kernel
theorem dX2_putHours_29 : decode cX2_putHours 29 = .ok (.iload 5, 2) := by decide +kernel
theorem dX2_putHours_31 : decode cX2_putHours 31 = .ok (.lload_n 3, 1) := by decide +kernel
theorem dX2_putHours_32 : decode cX2_putHours 32 = .ok (.lastore, 1) := by decide +kernel
theorem dX2_putHours_33 : decode cX2_putHours 33 = .ok (.return_, 1) := by decide +kernel
theorem dX2_openSet_0 : decode cX2_openSet 0 = .ok (.iconst 1, 1) := by decide +kernel
theorem dX2_openSet_1 : decode cX2_openSet 1 = .ok (.aload_n 0, 1) := by decide +kernel
theorem dX2_openSet_2 : decode cX2_openSet 2 = .ok (.getfield 47, 3) := by decide +kernel
theorem dX2_openSet_5 : decode cX2_openSet 5 = .ok (.ishl, 1) := by decide +kernel
theorem dX2_openSet_6 : decode cX2_openSet 6 = .ok (.iconst 1, 1) := by decide +kernel
theorem dX2_openSet_7 : decode cX2_openSet 7 = .ok (.isub, 1) := by decide +kernel
theorem dX2_openSet_8 : decode cX2_openSet 8 = .ok (.aload_n 0, 1) := by decide +kernel
theorem dX2_openSet_9 : decode cX2_openSet 9 = .ok (.getfield 55, 3) := by decide +kernel
theorem dX2_openSet_12 : decode cX2_openSet 12 = .ok (.iconst (-1), 1) := by decide +kernel
theorem dX2_openSet_13 : decode cX2_openSet 13 = .ok (.ixor, 1) := by decide +kernel
theorem dX2_openSet_14 : decode cX2_openSet 14 = .ok (.iand, 1) := by decide +kernel
theorem dX2_openSet_15 : decode cX2_openSet 15 = .ok (.ireturn, 1) := by decide +kernel
theorem dX2_freeSet_0 : decode cX2_freeSet 0 = .ok (.aload_n 0, 1) := by decide +kernel
theorem dX2_freeSet_1 : decode cX2_freeSet 1 = .ok (.invokevirtual 58, 3) := by decide +kernel
theorem dX2_freeSet_4 : decode cX2_freeSet 4 = .ok (.aload_n 0, 1) := by decide +kernel
theorem dX2_freeSet_5 : decode cX2_freeSet 5 = .ok (.getfield 62, 3) := by decide +kernel
theorem dX2_freeSet_8 : decode cX2_freeSet 8 = .ok (.iconst (-1), 1) := by decide +kernel
theorem dX2_freeSet_9 : decode cX2_freeSet 9 = .ok (.ixor, 1) := by decide +kernel
theorem dX2_freeSet_10 : decode cX2_freeSet 10 = .ok (.iand, 1) := by decide +kernel
theorem dX2_freeSet_11 : decode cX2_freeSet 11 = .ok (.ireturn, 1) := by decide +kernel
theorem dX2_costsOf_0 : decode cX2_costsOf 0 = .ok (.lconst 0, 1) := by decide +kernel
theorem dX2_costsOf_1 : decode cX2_costsOf 1 = .ok (.lstore_n 2, 1) := by decide +kernel
theorem dX2_costsOf_2 : decode cX2_costsOf 2 = .ok (.iconst 0, 1) := by decide +kernel
theorem dX2_costsOf_3 : decode cX2_costsOf 3 = .ok (.istore 4, 2) := by decide +kernel
theorem dX2_costsOf_5 : decode cX2_costsOf 5 = .ok (.iload 4, 2) := by decide +kernel
theorem dX2_costsOf_7 : decode cX2_costsOf 7 = .ok (.aload_n 0, 1) := by decide +kernel
theorem dX2_costsOf_8 : decode cX2_costsOf 8 = .ok (.getfield 47, 3) := by decide +kernel
theorem dX2_costsOf_11 : decode cX2_costsOf 11 = .ok (.if_icmp .ge 28, 3) := by decide +kernel
theorem dX2_costsOf_14 : decode cX2_costsOf 14 = .ok (.iload_n 1, 1) := by decide +kernel
theorem dX2_costsOf_15 : decode cX2_costsOf 15 = .ok (.iload 4, 2) := by decide +kernel
theorem dX2_costsOf_17 : decode cX2_costsOf 17 = .ok (.invokestatic 65, 3) := by decide +kernel
theorem dX2_costsOf_20 : decode cX2_costsOf 20 = .ok (.ifCond .eq 13, 3) := by decide +kernel
theorem dX2_costsOf_23 : decode cX2_costsOf 23 = .ok (.lload_n 2, 1) := by decide +kernel
theorem dX2_costsOf_24 : decode cX2_costsOf 24 = .ok (.aload_n 0, 1) := by decide +kernel
theorem dX2_costsOf_25 : decode cX2_costsOf 25 = .ok (.getfield 9, 3) := by decide +kernel
theorem dX2_costsOf_28 : decode cX2_costsOf 28 = .ok (.iload 4, 2) := by decide +kernel
theorem dX2_costsOf_30 : decode cX2_costsOf 30 = .ok (.laload, 1) := by decide +kernel
theorem dX2_costsOf_31 : decode cX2_costsOf 31 = .ok (.ladd, 1) := by decide +kernel
theorem dX2_costsOf_32 : decode cX2_costsOf 32 = .ok (.lstore_n 2, 1) := by decide +kernel
theorem dX2_costsOf_33 : decode cX2_costsOf 33 = .ok (.iinc 4 1, 3) := by decide +kernel
theorem dX2_costsOf_36 : decode cX2_costsOf 36 = .ok (.goto (-31), 3) := by decide +kernel
theorem dX2_costsOf_39 : decode cX2_costsOf 39 = .ok (.lload_n 2, 1) := by decide +kernel
theorem dX2_costsOf_40 : decode cX2_costsOf 40 = .ok (.lreturn, 1) := by decide +kernel
theorem dX2_comesBefore_0 : decode cX2_comesBefore 0 = .ok (.aload_n 0, 1) := by decide +kernel
theorem dX2_comesBefore_1 : decode cX2_comesBefore 1 = .ok (.getfield 9, 3) := by decide +kernel
theorem dX2_comesBefore_4 : decode cX2_comesBefore 4 = .ok (.iload_n 1, 1) := by decide +kernel
theorem dX2_comesBefore_5 : decode cX2_comesBefore 5 = .ok (.laload, 1) := by decide +kernel
theorem dX2_comesBefore_6 : decode cX2_comesBefore 6 = .ok (.aload_n 0, 1) := by decide +kernel
theorem dX2_comesBefore_7 : decode cX2_comesBefore 7 = .ok (.getfield 9, 3) := by decide +kernel
theorem dX2_comesBefore_10 : decode cX2_comesBefore 10 = .ok (.iload_n 2, 1) := by decide +kernel
theorem dX2_comesBefore_11 : decode cX2_comesBefore 11 = .ok (.laload, 1) := by decide +kernel
theorem dX2_comesBefore_12 : decode cX2_comesBefore 12 = .ok (.lcmp, 1) := by decide +kernel
theorem dX2_comesBefore_13 : decode cX2_comesBefore 13 = .ok (.ifCond .lt 24, 3) := by decide +kernel
theorem dX2_comesBefore_16 : decode cX2_comesBefore 16 = .ok (.aload_n 0, 1) := by decide +kernel
theorem dX2_comesBefore_17 : decode cX2_comesBefore 17 = .ok (.getfield 9, 3) := by decide +kernel
theorem dX2_comesBefore_20 : decode cX2_comesBefore 20 = .ok (.iload_n 1, 1) := by decide +kernel
theorem dX2_comesBefore_21 : decode cX2_comesBefore 21 = .ok (.laload, 1) := by decide +kernel
theorem dX2_comesBefore_22 : decode cX2_comesBefore 22 = .ok (.aload_n 0, 1) := by decide +kernel
theorem dX2_comesBefore_23 : decode cX2_comesBefore 23 = .ok (.getfield 9, 3) := by decide +kernel
theorem dX2_comesBefore_26 : decode cX2_comesBefore 26 = .ok (.iload_n 2, 1) := by decide +kernel
theorem dX2_comesBefore_27 : decode cX2_comesBefore 27 = .ok (.laload, 1) := by decide +kernel
theorem dX2_comesBefore_28 : decode cX2_comesBefore 28 = .ok (.lcmp, 1) := by decide +kernel
theorem dX2_comesBefore_29 : decode cX2_comesBefore 29 = .ok (.ifCond .ne 12, 3) := by decide +kernel
theorem dX2_comesBefore_32 : decode cX2_comesBefore 32 = .ok (.iload_n 1, 1) := by decide +kernel
theorem dX2_comesBefore_33 : decode cX2_comesBefore 33 = .ok (.iload_n 2, 1) := by decide +kernel
theorem dX2_comesBefore_34 : decode cX2_comesBefore 34 = .ok (.if_icmp .ge 7, 3) := by decide +kernel
theorem dX2_comesBefore_37 : decode cX2_comesBefore 37 = .ok (.iconst 1, 1) := by decide +kernel
theorem dX2_comesBefore_38 : decode cX2_comesBefore 38 = .ok (.goto 4, 3) := by decide +kernel
theorem dX2_comesBefore_41 : decode cX2_comesBefore 41 = .ok (.iconst 0, 1) := by decide +kernel
theorem dX2_comesBefore_42 : decode cX2_comesBefore 42 = .ok (.ireturn, 1) := by decide +kernel
theorem dX3_init_0 : decode cX3_init 0 = .ok (.aload_n 0, 1) := by decide +kernel
theorem dX3_init_1 : decode cX3_init 1 = .ok (.invokespecial 3, 3) := by decide +kernel
theorem dX3_init_4 : decode cX3_init 4 = .ok (.aload_n 0, 1) := by decide +kernel
theorem dX3_init_5 : decode cX3_init 5 = .ok (.aload_n 1, 1) := by decide +kernel
theorem dX3_init_6 : decode cX3_init 6 = .ok (.putfield 9, 3) := by decide +kernel
theorem dX3_init_9 : decode cX3_init 9 = .ok (.aload_n 0, 1) := by decide +kernel
theorem dX3_init_10 : decode cX3_init 10 = .ok (.bipush 8, 2) := by decide +kernel
theorem dX3_init_12 : decode cX3_init 12 = .ok (.newarray .long, 2) := by decide +kernel
theorem dX3_init_14 : decode cX3_init 14 = .ok (.putfield 15, 3) := by decide +kernel
theorem dX3_init_17 : decode cX3_init 17 = .ok (.aload_n 0, 1) := by decide +kernel
theorem dX3_init_18 : decode cX3_init 18 = .ok (.iconst 4, 1) := by decide +kernel
theorem dX3_init_19 : decode cX3_init 19 = .ok (.newarray .long, 2) := by decide +kernel
theorem dX3_init_21 : decode cX3_init 21 = .ok (.putfield 19, 3) := by decide +kernel
theorem dX3_init_24 : decode cX3_init 24 = .ok (.return_, 1) := by decide +kernel
theorem dX3_begin_0 : decode cX3_begin 0 = .ok (.aload_n 0, 1) := by decide +kernel
theorem dX3_begin_1 : decode cX3_begin 1 = .ok (.iconst 0, 1) := by decide +kernel
theorem dX3_begin_2 : decode cX3_begin 2 = .ok (.putfield 22, 3) := by decide +kernel
theorem dX3_begin_5 : decode cX3_begin 5 = .ok (.aload_n 0, 1) := by decide +kernel
theorem dX3_begin_6 : decode cX3_begin 6 = .ok (.iconst 0, 1) := by decide +kernel
theorem dX3_begin_7 : decode cX3_begin 7 = .ok (.putfield 26, 3) := by decide +kernel
theorem dX3_begin_10 : decode cX3_begin 10 = .ok (.aload_n 0, 1) := by decide +kernel
theorem dX3_begin_11 : decode cX3_begin 11 = .ok (.lconst 0, 1) := by decide +kernel
theorem dX3_begin_12 : decode cX3_begin 12 = .ok (.putfield 29, 3) := by decide +kernel
theorem dX3_begin_15 : decode cX3_begin 15 = .ok (.aload_n 0, 1) := by decide +kernel
theorem dX3_begin_16 : decode cX3_begin 16 = .ok (.lconst 0, 1) := by decide +kernel
theorem dX3_begin_17 : decode cX3_begin 17 = .ok (.putfield 33, 3) := by decide +kernel
theorem dX3_begin_20 : decode cX3_begin 20 = .ok (.iconst 0, 1) := by decide +kernel
theorem dX3_begin_21 : decode cX3_begin 21 = .ok (.istore_n 2, 1) := by decide +kernel
theorem dX3_begin_22 : decode cX3_begin 22 = .ok (.iload_n 2, 1) := by decide +kernel
theorem dX3_begin_23 : decode cX3_begin 23 = .ok (.bipush 8, 2) := by decide +kernel
theorem dX3_begin_25 : decode cX3_begin 25 = .ok (.if_icmp .ge 16, 3) := by decide +kernel
theorem dX3_begin_28 : decode cX3_begin 28 = .ok (.aload_n 0, 1) := by decide +kernel
theorem dX3_begin_29 : decode cX3_begin 29 = .ok (.getfield 15, 3) := by decide +kernel
theorem dX3_begin_32 : decode cX3_begin 32 = .ok (.iload_n 2, 1) := by decide +kernel
theorem dX3_begin_33 : decode cX3_begin 33 = .ok (.lconst 0, 1) := by decide +kernel
theorem dX3_begin_34 : decode cX3_begin 34 = .ok (.lastore, 1) := by decide +kernel
theorem dX3_begin_35 : decode cX3_begin 35 = .ok (.iinc 2 1, 3) := by decide +kernel
theorem dX3_begin_38 : decode cX3_begin 38 = .ok (.goto (-16), 3) := by decide +kernel
theorem dX3_begin_41 : decode cX3_begin 41 = .ok (.iconst 0, 1) := by decide +kernel
theorem dX3_begin_42 : decode cX3_begin 42 = .ok (.istore_n 2, 1) := by decide +kernel
theorem dX3_begin_43 : decode cX3_begin 43 = .ok (.iload_n 2, 1) := by decide +kernel
theorem dX3_begin_44 : decode cX3_begin 44 = .ok (.iconst 4, 1) := by decide +kernel
theorem dX3_begin_45 : decode cX3_begin 45 = .ok (.if_icmp .ge 16, 3) := by decide +kernel
theorem dX3_begin_48 : decode cX3_begin 48 = .ok (.aload_n 0, 1) := by decide +kernel
theorem dX3_begin_49 : decode cX3_begin 49 = .ok (.getfield 19, 3) := by decide +kernel
theorem dX3_begin_52 : decode cX3_begin 52 = .ok (.iload_n 2, 1) := by decide +kernel
theorem dX3_begin_53 : decode cX3_begin 53 = .ok (.lconst 0, 1) := by decide +kernel
theorem dX3_begin_54 : decode cX3_begin 54 = .ok (.lastore, 1) := by decide +kernel
theorem dX3_begin_55 : decode cX3_begin 55 = .ok (.iinc 2 1, 3) := by decide +kernel
theorem dX3_begin_58 : decode cX3_begin 58 = .ok (.goto (-15), 3) := by decide +kernel
theorem dX3_begin_61 : decode cX3_begin 61 = .ok (.iconst 0, 1) := by decide +kernel
theorem dX3_begin_62 : decode cX3_begin 62 = .ok (.istore_n 2, 1) := by decide +kernel
theorem dX3_begin_63 : decode cX3_begin 63 = .ok (.iload_n 2, 1) := by decide +kernel
theorem dX3_begin_64 : decode cX3_begin 64 = .ok (.aload_n 0, 1) := by decide +kernel
theorem dX3_begin_65 : decode cX3_begin 65 = .ok (.getfield 9, 3) := by decide +kernel
theorem dX3_begin_68 : decode cX3_begin 68 = .ok (.getfield 36, 3) := by decide +kernel
theorem dX3_begin_71 : decode cX3_begin 71 = .ok (.if_icmp .ge 22, 3) := by decide +kernel
theorem dX3_begin_74 : decode cX3_begin 74 = .ok (.iload_n 1, 1) := by decide +kernel
theorem dX3_begin_75 : decode cX3_begin 75 = .ok (.iload_n 2, 1) := by decide +kernel
theorem dX3_begin_76 : decode cX3_begin 76 = .ok (.invokestatic 39, 3) := by decide +kernel
theorem dX3_begin_79 : decode cX3_begin 79 = .ok (.ifCond .eq 8, 3) := by decide +kernel
theorem dX3_begin_82 : decode cX3_begin 82 = .ok (.aload_n 0, 1) := by decide +kernel
theorem dX3_begin_83 : decode cX3_begin 83 = .ok (.iload_n 2, 1) := by decide +kernel
theorem dX3_begin_84 : decode cX3_begin 84 = .ok (.invokevirtual 43, 3) := by decide +kernel
theorem dX3_begin_87 : decode cX3_begin 87 = .ok (.iinc 2 1, 3) := by decide +kernel
theorem dX3_begin_90 : decode cX3_begin 90 = .ok (.goto (-27), 3) := by decide +kernel
theorem dX3_begin_93 : decode cX3_begin 93 = .ok (.return_, 1) := by decide +kernel
theorem dX3_exchange_0 : decode cX3_exchange 0 = .ok (.aload_n 0, 1) := by decide +kernel
theorem dX3_exchange_1 : decode cX3_exchange 1 = .ok (.getfield 22, 3) := by decide +kernel
theorem dX3_exchange_4 : decode cX3_exchange 4 = .ok (.iload_n 1, 1) := by decide +kernel
theorem dX3_exchange_5 : decode cX3_exchange 5 = .ok (.invokestatic 39, 3) := by decide +kernel
theorem dX3_exchange_8 : decode cX3_exchange 8 = .ok (.ifCond .eq 7, 3) := by decide +kernel
theorem dX3_exchange_11 : decode cX3_exchange 11 = .ok (.iconst (-1), 1) := by decide +kernel
theorem dX3_exchange_12 : decode cX3_exchange 12 = .ok (.goto 4, 3) := by decide +kernel
theorem dX3_exchange_15 : decode cX3_exchange 15 = .ok (.iconst 1, 1) := by decide +kernel
theorem dX3_exchange_16 : decode cX3_exchange 16 = .ok (.istore_n 2, 1) := by decide +kernel
theorem dX3_exchange_17 : decode cX3_exchange 17 = .ok (.aload_n 0, 1) := by decide +kernel
theorem dX3_exchange_18 : decode cX3_exchange 18 = .ok (.getfield 22, 3) := by decide +kernel
theorem dX3_exchange_21 : decode cX3_exchange 21 = .ok (.iconst 1, 1) := by decide +kernel
theorem dX3_exchange_22 : decode cX3_exchange 22 = .ok (.iload_n 1, 1) := by decide +kernel
theorem dX3_exchange_23 : decode cX3_exchange 23 = .ok (.ishl, 1) := by decide +kernel
theorem dX3_exchange_24 : decode cX3_exchange 24 = .ok (.iconst (-1), 1) := by decide +kernel
theorem dX3_exchange_25 : decode cX3_exchange 25 = .ok (.ixor, 1) := by decide +kernel
theorem dX3_exchange_26 : decode cX3_exchange 26 = .ok (.iand, 1) := by decide +kernel
theorem dX3_exchange_27 : decode cX3_exchange 27 = .ok (.istore_n 3, 1) := by decide +kernel
theorem dX3_exchange_28 : decode cX3_exchange 28 = .ok (.aload_n 0, 1) := by decide +kernel
theorem dX3_exchange_29 : decode cX3_exchange 29 = .ok (.dup, 1) := by decide +kernel
theorem dX3_exchange_30 : decode cX3_exchange 30 = .ok (.getfield 26, 3) := by decide +kernel
theorem dX3_exchange_33 : decode cX3_exchange 33 = .ok (.iload_n 2, 1) := by decide +kernel
theorem dX3_exchange_34 : decode cX3_exchange 34 = .ok (.aload_n 0, 1) := by decide +kernel
theorem dX3_exchange_35 : decode cX3_exchange 35 = .ok (.getfield 9, 3) := by decide +kernel
theorem dX3_exchange_38 : decode cX3_exchange 38 = .ok (.getfield 47, 3) := by decide +kernel
theorem dX3_exchange_41 : decode cX3_exchange 41 = .ok (.iload_n 1, 1) := by decide +kernel
theorem dX3_exchange_42 : decode cX3_exchange 42 = .ok (.iaload, 1) := by decide +kernel
theorem dX3_exchange_43 : decode cX3_exchange 43 = .ok (.iload_n 3, 1) := by decide +kernel
theorem dX3_exchange_44 : decode cX3_exchange 44 = .ok (.iand, 1) := by decide +kernel
theorem dX3_exchange_45 : decode cX3_exchange 45 = .ok (.invokestatic 51, 3) := by decide +kernel
theorem dX3_exchange_48 : decode cX3_exchange 48 = .ok (.imul, 1) := by decide +kernel
theorem dX3_exchange_49 : decode cX3_exchange 49 = .ok (.iadd, 1) := by decide +kernel
theorem dX3_exchange_50 : decode cX3_exchange 50 = .ok (.putfield 26, 3) := by decide +kernel
theorem dX3_exchange_53 : decode cX3_exchange 53 = .ok (.aload_n 0, 1) := by decide +kernel
theorem dX3_exchange_54 : decode cX3_exchange 54 = .ok (.dup, 1) := by decide +kernel
theorem dX3_exchange_55 : decode cX3_exchange 55 = .ok (.getfield 29, 3) := by decide +kernel
theorem dX3_exchange_58 : decode cX3_exchange 58 = .ok (.iload_n 2, 1) := by decide +kernel
theorem dX3_exchange_59 : decode cX3_exchange 59 = .ok (.i2l, 1) := by decide +kernel
theorem dX3_exchange_60 : decode cX3_exchange 60 = .ok (.aload_n 0, 1) := by decide +kernel
theorem dX3_exchange_61 : decode cX3_exchange 61 = .ok (.getfield 9, 3) := by decide +kernel
theorem dX3_exchange_64 : decode cX3_exchange 64 = .ok (.getfield 57, 3) := by decide +kernel
theorem dX3_exchange_67 : decode cX3_exchange 67 = .ok (.iload_n 1, 1) := by decide +kernel
theorem dX3_exchange_68 : decode cX3_exchange 68 = .ok (.laload, 1) := by decide +kernel
theorem dX3_exchange_69 : decode cX3_exchange 69 = .ok (.lmul, 1) := by decide +kernel
theorem dX3_exchange_70 : decode cX3_exchange 70 = .ok (.ladd, 1) := by decide +kernel
theorem dX3_exchange_71 : decode cX3_exchange 71 = .ok (.putfield 29, 3) := by decide +kernel
theorem dX3_exchange_74 : decode cX3_exchange 74 = .ok (.aload_n 0, 1) := by decide +kernel
theorem dX3_exchange_75 : decode cX3_exchange 75 = .ok (.dup, 1) := by decide +kernel
theorem dX3_exchange_76 : decode cX3_exchange 76 = .ok (.getfield 33, 3) := by decide +kernel
theorem dX3_exchange_79 : decode cX3_exchange 79 = .ok (.iload_n 2, 1) := by decide +kernel
theorem dX3_exchange_80 : decode cX3_exchange 80 = .ok (.i2l, 1) := by decide +kernel
theorem dX3_exchange_81 : decode cX3_exchange 81 = .ok (.aload_n 0, 1) := by decide +kernel
theorem dX3_exchange_82 : decode cX3_exchange 82 = .ok (.iload_n 1, 1) := by decide +kernel
theorem dX3_exchange_83 : decode cX3_exchange 83 = .ok (.iload_n 3, 1) := by decide +kernel
theorem dX3_exchange_84 : decode cX3_exchange 84 = .ok (.invokevirtual 60, 3) := by decide +kernel
theorem dX3_exchange_87 : decode cX3_exchange 87 = .ok (.lmul, 1) := by decide +kernel
theorem dX3_exchange_88 : decode cX3_exchange 88 = .ok (.ladd, 1) := by decide +kernel
theorem dX3_exchange_89 : decode cX3_exchange 89 = .ok (.putfield 33, 3) := by decide +kernel
theorem dX3_exchange_92 : decode cX3_exchange 92 = .ok (.iconst 0, 1) := by decide +kernel
theorem dX3_exchange_93 : decode cX3_exchange 93 = .ok (.istore 4, 2) := by decide +kernel
theorem dX3_exchange_95 : decode cX3_exchange 95 = .ok (.iload 4, 2) := by decide +kernel
theorem dX3_exchange_97 : decode cX3_exchange 97 = .ok (.bipush 8, 2) := by decide +kernel
theorem dX3_exchange_99 : decode cX3_exchange 99 = .ok (.if_icmp .ge 37, 3) := by decide +kernel
theorem dX3_exchange_102 : decode cX3_exchange 102 = .ok (.aload_n 0, 1) := by decide +kernel
theorem dX3_exchange_103 : decode cX3_exchange 103 = .ok (.getfield 15, 3) := by decide +kernel
theorem dX3_exchange_106 : decode cX3_exchange 106 = .ok (.iload 4, 2) := by decide +kernel
theorem dX3_exchange_108 : decode cX3_exchange 108 = .ok (.dup2, 1) := by decide +kernel
theorem dX3_exchange_109 : decode cX3_exchange 109 = .ok (.laload, 1) := by decide +kernel
theorem dX3_exchange_110 : decode cX3_exchange 110 = .ok (.iload_n 2, 1) := by decide +kernel
theorem dX3_exchange_111 : decode cX3_exchange 111 = .ok (.i2l, 1) := by decide +kernel
theorem dX3_exchange_112 : decode cX3_exchange 112 = .ok (.aload_n 0, 1) := by decide +kernel
theorem dX3_exchange_113 : decode cX3_exchange 113 = .ok (.getfield 9, 3) := by decide +kernel
theorem dX3_exchange_116 : decode cX3_exchange 116 = .ok (.getfield 64, 3) := by decide +kernel
theorem dX3_exchange_119 : decode cX3_exchange 119 = .ok (.iload_n 1, 1) := by decide +kernel
theorem dX3_exchange_120 : decode cX3_exchange 120 = .ok (.bipush 8, 2) := by decide +kernel
theorem dX3_exchange_122 : decode cX3_exchange 122 = .ok (.imul, 1) := by decide +kernel
theorem dX3_exchange_123 : decode cX3_exchange 123 = .ok (.iload 4, 2) := by decide +kernel
theorem dX3_exchange_125 : decode cX3_exchange 125 = .ok (.iadd, 1) := by decide +kernel
theorem dX3_exchange_126 : decode cX3_exchange 126 = .ok (.laload, 1) := by decide +kernel
theorem dX3_exchange_127 : decode cX3_exchange 127 = .ok (.lmul, 1) := by decide +kernel
theorem dX3_exchange_128 : decode cX3_exchange 128 = .ok (.ladd, 1) := by decide +kernel
theorem dX3_exchange_129 : decode cX3_exchange 129 = .ok (.lastore, 1) := by decide +kernel
theorem dX3_exchange_130 : decode cX3_exchange 130 = .ok (.iinc 4 1, 3) := by decide +kernel
theorem dX3_exchange_133 : decode cX3_exchange 133 = .ok (.goto (-38), 3) := by decide +kernel
theorem dX3_exchange_136 : decode cX3_exchange 136 = .ok (.iconst 0, 1) := by decide +kernel
theorem dX3_exchange_137 : decode cX3_exchange 137 = .ok (.istore 4, 2) := by decide +kernel
theorem dX3_exchange_139 : decode cX3_exchange 139 = .ok (.iload 4, 2) := by decide +kernel
theorem dX3_exchange_141 : decode cX3_exchange 141 = .ok (.iconst 4, 1) := by decide +kernel
theorem dX3_exchange_142 : decode cX3_exchange 142 = .ok (.if_icmp .ge 36, 3) := by decide +kernel
theorem dX3_exchange_145 : decode cX3_exchange 145 = .ok (.aload_n 0, 1) := by decide +kernel
theorem dX3_exchange_146 : decode cX3_exchange 146 = .ok (.getfield 19, 3) := by decide +kernel
theorem dX3_exchange_149 : decode cX3_exchange 149 = .ok (.iload 4, 2) := by decide +kernel
theorem dX3_exchange_151 : decode cX3_exchange 151 = .ok (.dup2, 1) := by decide +kernel
theorem dX3_exchange_152 : decode cX3_exchange 152 = .ok (.laload, 1) := by decide +kernel
theorem dX3_exchange_153 : decode cX3_exchange 153 = .ok (.iload_n 2, 1) := by decide +kernel
theorem dX3_exchange_154 : decode cX3_exchange 154 = .ok (.i2l, 1) := by decide +kernel
theorem dX3_exchange_155 : decode cX3_exchange 155 = .ok (.aload_n 0, 1) := by decide +kernel
theorem dX3_exchange_156 : decode cX3_exchange 156 = .ok (.getfield 9, 3) := by decide +kernel
theorem dX3_exchange_159 : decode cX3_exchange 159 = .ok (.getfield 65, 3) := by decide +kernel
theorem dX3_exchange_162 : decode cX3_exchange 162 = .ok (.iload_n 1, 1) := by decide +kernel
theorem dX3_exchange_163 : decode cX3_exchange 163 = .ok (.iconst 4, 1) := by decide +kernel
theorem dX3_exchange_164 : decode cX3_exchange 164 = .ok (.imul, 1) := by decide +kernel
theorem dX3_exchange_165 : decode cX3_exchange 165 = .ok (.iload 4, 2) := by decide +kernel
theorem dX3_exchange_167 : decode cX3_exchange 167 = .ok (.iadd, 1) := by decide +kernel
theorem dX3_exchange_168 : decode cX3_exchange 168 = .ok (.laload, 1) := by decide +kernel
theorem dX3_exchange_169 : decode cX3_exchange 169 = .ok (.lmul, 1) := by decide +kernel
theorem dX3_exchange_170 : decode cX3_exchange 170 = .ok (.ladd, 1) := by decide +kernel
theorem dX3_exchange_171 : decode cX3_exchange 171 = .ok (.lastore, 1) := by decide +kernel
theorem dX3_exchange_172 : decode cX3_exchange 172 = .ok (.iinc 4 1, 3) := by decide +kernel
theorem dX3_exchange_175 : decode cX3_exchange 175 = .ok (.goto (-36), 3) := by decide +kernel
theorem dX3_exchange_178 : decode cX3_exchange 178 = .ok (.aload_n 0, 1) := by decide +kernel
theorem dX3_exchange_179 : decode cX3_exchange 179 = .ok (.dup, 1) := by decide +kernel
theorem dX3_exchange_180 : decode cX3_exchange 180 = .ok (.getfield 22, 3) := by decide +kernel
theorem dX3_exchange_183 : decode cX3_exchange 183 = .ok (.iconst 1, 1) := by decide +kernel
theorem dX3_exchange_184 : decode cX3_exchange 184 = .ok (.iload_n 1, 1) := by decide +kernel
theorem dX3_exchange_185 : decode cX3_exchange 185 = .ok (.ishl, 1) := by decide +kernel
theorem dX3_exchange_186 : decode cX3_exchange 186 = .ok (.ixor, 1) := by decide +kernel
theorem dX3_exchange_187 : decode cX3_exchange 187 = .ok (.putfield 22, 3) := by decide +kernel
theorem dX3_exchange_190 : decode cX3_exchange 190 = .ok (.return_, 1) := by decide +kernel
theorem dX3_borderGainedBy_0 : decode cX3_borderGainedBy 0 = .ok (.lconst 0, 1) := by decide +kernel
theorem dX3_borderGainedBy_1 : decode cX3_borderGainedBy 1 = .ok (.lstore_n 3, 1) := by decide +kernel
theorem dX3_borderGainedBy_2 : decode cX3_borderGainedBy 2 = .ok (.iconst 0, 1) := by decide +kernel
theorem dX3_borderGainedBy_3 : decode cX3_borderGainedBy 3 = .ok (.istore 5, 2) := by decide +kernel
theorem dX3_borderGainedBy_5 : decode cX3_borderGainedBy 5 = .ok (.iload 5, 2) := by decide +kernel
theorem dX3_borderGainedBy_7 : decode cX3_borderGainedBy 7 = .ok (.aload_n 0, 1) := by decide +kernel
theorem dX3_borderGainedBy_8 : decode cX3_borderGainedBy 8 = .ok (.getfield 9, 3) := by decide +kernel
theorem dX3_borderGainedBy_11 : decode cX3_borderGainedBy 11 = .ok (.getfield 36, 3) := by decide +kernel
theorem dX3_borderGainedBy_14 : decode cX3_borderGainedBy 14 = .ok (.if_icmp .ge 46, 3) := by decide +kernel
theorem dX3_borderGainedBy_17 : decode cX3_borderGainedBy 17 = .ok (.aload_n 0, 1) := by decide +kernel
theorem dX3_borderGainedBy_18 : decode cX3_borderGainedBy 18 = .ok (.getfield 9, 3) := by decide +kernel
theorem dX3_borderGainedBy_21 : decode cX3_borderGainedBy 21 = .ok (.getfield 66, 3) := by decide +kernel
theorem dX3_borderGainedBy_24 : decode cX3_borderGainedBy 24 = .ok (.iload_n 1, 1) := by decide +kernel
theorem dX3_borderGainedBy_25 : decode cX3_borderGainedBy 25 = .ok (.bipush 24, 2) := by decide +kernel
theorem dX3_borderGainedBy_27 : decode cX3_borderGainedBy 27 = .ok (.imul, 1) := by decide +kernel
theorem dX3_borderGainedBy_28 : decode cX3_borderGainedBy 28 = .ok (.iload 5, 2) := by decide +kernel
theorem dX3_borderGainedBy_30 : decode cX3_borderGainedBy 30 = .ok (.iadd, 1) := by decide +kernel
theorem dX3_borderGainedBy_31 : decode cX3_borderGainedBy 31 = .ok (.laload, 1) := by decide +kernel
theorem dX3_borderGainedBy_32 : decode cX3_borderGainedBy 32 = .ok (.lstore 6, 2) := by decide +kernel
theorem dX3_borderGainedBy_34 : decode cX3_borderGainedBy 34 = .ok (.lload_n 3, 1) := by decide +kernel
theorem dX3_borderGainedBy_35 : decode cX3_borderGainedBy 35 = .ok (.iload_n 2, 1) := by decide +kernel
theorem dX3_borderGainedBy_36 : decode cX3_borderGainedBy 36 = .ok (.iload 5, 2) := by decide +kernel
theorem dX3_borderGainedBy_38 : decode cX3_borderGainedBy 38 = .ok (.invokestatic 39, 3) := by decide +kernel
theorem dX3_borderGainedBy_41 : decode cX3_borderGainedBy 41 = .ok (.ifCond .eq 9, 3) := by decide +kernel
theorem dX3_borderGainedBy_44 : decode cX3_borderGainedBy 44 = .ok (.lload 6, 2) := by decide +kernel
theorem dX3_borderGainedBy_46 : decode cX3_borderGainedBy 46 = .ok (.lneg, 1) := by decide +kernel
theorem dX3_borderGainedBy_47 : decode cX3_borderGainedBy 47 = .ok (.goto 5, 3) := by decide +kernel
theorem dX3_borderGainedBy_50 : decode cX3_borderGainedBy 50 = .ok (.lload 6, 2) := by decide +kernel
theorem dX3_borderGainedBy_52 : decode cX3_borderGainedBy 52 = .ok (.ladd, 1) := by decide +kernel
theorem dX3_borderGainedBy_53 : decode cX3_borderGainedBy 53 = .ok (.lstore_n 3, 1) := by decide +kernel
theorem dX3_borderGainedBy_54 : decode cX3_borderGainedBy 54 = .ok (.iinc 5 1, 3) := by decide +kernel
theorem dX3_borderGainedBy_57 : decode cX3_borderGainedBy 57 = .ok (.goto (-52), 3) := by decide +kernel
theorem dX3_borderGainedBy_60 : decode cX3_borderGainedBy 60 = .ok (.lload_n 3, 1) := by decide +kernel
theorem dX3_borderGainedBy_61 : decode cX3_borderGainedBy 61 = .ok (.lreturn, 1) := by decide +kernel
theorem dX3_price_0 : decode cX3_price 0 = .ok (.aload_n 0, 1) := by decide +kernel
theorem dX3_price_1 : decode cX3_price 1 = .ok (.getfield 29, 3) := by decide +kernel
theorem dX3_price_4 : decode cX3_price 4 = .ok (.aload_n 0, 1) := by decide +kernel
theorem dX3_price_5 : decode cX3_price 5 = .ok (.getfield 9, 3) := by decide +kernel
theorem dX3_price_8 : decode cX3_price 8 = .ok (.getfield 69, 3) := by decide +kernel
theorem dX3_price_11 : decode cX3_price 11 = .ok (.aload_n 0, 1) := by decide +kernel
theorem dX3_price_12 : decode cX3_price 12 = .ok (.getfield 33, 3) := by decide +kernel
theorem dX3_price_15 : decode cX3_price 15 = .ok (.lmul, 1) := by decide +kernel
theorem dX3_price_16 : decode cX3_price 16 = .ok (.ladd, 1) := by decide +kernel
theorem dX3_price_17 : decode cX3_price 17 = .ok (.lreturn, 1) := by decide +kernel
theorem dX3_stands_0 : decode cX3_stands 0 = .ok (.aload_n 0, 1) := by decide +kernel
theorem dX3_stands_1 : decode cX3_stands 1 = .ok (.getfield 9, 3) := by decide +kernel
theorem dX3_stands_4 : decode cX3_stands 4 = .ok (.getfield 72, 3) := by decide +kernel
theorem dX3_stands_7 : decode cX3_stands 7 = .ok (.aload_n 0, 1) := by decide +kernel
theorem dX3_stands_8 : decode cX3_stands 8 = .ok (.getfield 22, 3) := by decide +kernel
theorem dX3_stands_11 : decode cX3_stands 11 = .ok (.iconst (-1), 1) := by decide +kernel
theorem dX3_stands_12 : decode cX3_stands 12 = .ok (.ixor, 1) := by decide +kernel
theorem dX3_stands_13 : decode cX3_stands 13 = .ok (.iand, 1) := by decide +kernel
theorem dX3_stands_14 : decode cX3_stands 14 = .ok (.ifCond .ne 60, 3) := by decide +kernel
theorem dX3_stands_17 : decode cX3_stands 17 = .ok (.aload_n 0, 1) := by decide +kernel
theorem dX3_stands_18 : decode cX3_stands 18 = .ok (.getfield 9, 3) := by decide +kernel
theorem dX3_stands_21 : decode cX3_stands 21 = .ok (.getfield 75, 3) := by decide +kernel
theorem dX3_stands_24 : decode cX3_stands 24 = .ok (.aload_n 0, 1) := by decide +kernel
theorem dX3_stands_25 : decode cX3_stands 25 = .ok (.getfield 22, 3) := by decide +kernel
theorem dX3_stands_28 : decode cX3_stands 28 = .ok (.iand, 1) := by decide +kernel
theorem dX3_stands_29 : decode cX3_stands 29 = .ok (.ifCond .ne 45, 3) := by decide +kernel
theorem dX3_stands_32 : decode cX3_stands 32 = .ok (.aload_n 0, 1) := by decide +kernel
theorem dX3_stands_33 : decode cX3_stands 33 = .ok (.getfield 22, 3) := by decide +kernel
theorem dX3_stands_36 : decode cX3_stands 36 = .ok (.invokestatic 51, 3) := by decide +kernel
theorem dX3_stands_39 : decode cX3_stands 39 = .ok (.aload_n 0, 1) := by decide +kernel
theorem dX3_stands_40 : decode cX3_stands 40 = .ok (.getfield 9, 3) := by decide +kernel
theorem dX3_stands_43 : decode cX3_stands 43 = .ok (.getfield 78, 3) := by decide +kernel
theorem dX3_stands_46 : decode cX3_stands 46 = .ok (.if_icmp .lt 28, 3) := by decide +kernel
theorem dX3_stands_49 : decode cX3_stands 49 = .ok (.aload_n 0, 1) := by decide +kernel
theorem dX3_stands_50 : decode cX3_stands 50 = .ok (.getfield 26, 3) := by decide +kernel
theorem dX3_stands_53 : decode cX3_stands 53 = .ok (.ifCond .ne 21, 3) := by decide +kernel
theorem dX3_stands_56 : decode cX3_stands 56 = .ok (.aload_n 0, 1) := by decide +kernel
theorem dX3_stands_57 : decode cX3_stands 57 = .ok (.invokevirtual 81, 3) := by decide +kernel
theorem dX3_stands_60 : decode cX3_stands 60 = .ok (.ifCond .eq 14, 3) := by decide +kernel
theorem dX3_stands_63 : decode cX3_stands 63 = .ok (.aload_n 0, 1) := by decide +kernel
theorem dX3_stands_64 : decode cX3_stands 64 = .ok (.invokevirtual 85, 3) := by decide +kernel
theorem dX3_stands_67 : decode cX3_stands 67 = .ok (.ifCond .eq 7, 3) := by decide +kernel
theorem dX3_stands_70 : decode cX3_stands 70 = .ok (.iconst 1, 1) := by decide +kernel
theorem dX3_stands_71 : decode cX3_stands 71 = .ok (.goto 4, 3) := by decide +kernel
theorem dX3_stands_74 : decode cX3_stands 74 = .ok (.iconst 0, 1) := by decide +kernel
theorem dX3_stands_75 : decode cX3_stands 75 = .ok (.ireturn, 1) := by decide +kernel
theorem dX3_meetsGoals_0 : decode cX3_meetsGoals 0 = .ok (.iconst 0, 1) := by decide +kernel
theorem dX3_meetsGoals_1 : decode cX3_meetsGoals 1 = .ok (.istore_n 1, 1) := by decide +kernel
theorem dX3_meetsGoals_2 : decode cX3_meetsGoals 2 = .ok (.iload_n 1, 1) := by decide +kernel
theorem dX3_meetsGoals_3 : decode cX3_meetsGoals 3 = .ok (.bipush 8, 2) := by decide +kernel
theorem dX3_meetsGoals_5 : decode cX3_meetsGoals 5 = .ok (.if_icmp .ge 19, 3) := by decide +kernel
theorem dX3_meetsGoals_8 : decode cX3_meetsGoals 8 = .ok (.aload_n 0, 1) := by decide +kernel
theorem dX3_meetsGoals_9 : decode cX3_meetsGoals 9 = .ok (.iload_n 1, 1) := by decide +kernel
theorem dX3_meetsGoals_10 : decode cX3_meetsGoals 10 = .ok (.invokevirtual 88, 3) := by decide +kernel
theorem dX3_meetsGoals_13 : decode cX3_meetsGoals 13 = .ok (.ifCond .ne 5, 3) := by decide +kernel
theorem dX3_meetsGoals_16 : decode cX3_meetsGoals 16 = .ok (.iconst 0, 1) := by decide +kernel
theorem dX3_meetsGoals_17 : decode cX3_meetsGoals 17 = .ok (.ireturn, 1) := by decide +kernel
theorem dX3_meetsGoals_18 : decode cX3_meetsGoals 18 = .ok (.iinc 1 1, 3) := by decide +kernel
theorem dX3_meetsGoals_21 : decode cX3_meetsGoals 21 = .ok (.goto (-19), 3) := by decide +kernel
theorem dX3_meetsGoals_24 : decode cX3_meetsGoals 24 = .ok (.iconst 1, 1) := by decide +kernel
theorem dX3_meetsGoals_25 : decode cX3_meetsGoals 25 = .ok (.ireturn, 1) := by decide +kernel
theorem dX3_meetsGoal_0 : decode cX3_meetsGoal 0 = .ok (.aload_n 0, 1) := by decide +kernel
theorem dX3_meetsGoal_1 : decode cX3_meetsGoal 1 = .ok (.getfield 15, 3) := by decide +kernel
theorem dX3_meetsGoal_4 : decode cX3_meetsGoal 4 = .ok (.iload_n 1, 1) := by decide +kernel
theorem dX3_meetsGoal_5 : decode cX3_meetsGoal 5 = .ok (.laload, 1) := by decide +kernel
theorem dX3_meetsGoal_6 : decode cX3_meetsGoal 6 = .ok (.aload_n 0, 1) := by decide +kernel
theorem dX3_meetsGoal_7 : decode cX3_meetsGoal 7 = .ok (.getfield 9, 3) := by decide +kernel
theorem dX3_meetsGoal_10 : decode cX3_meetsGoal 10 = .ok (.getfield 92, 3) := by decide +kernel
theorem dX3_meetsGoal_13 : decode cX3_meetsGoal 13 = .ok (.iload_n 1, 1) := by decide +kernel
theorem dX3_meetsGoal_14 : decode cX3_meetsGoal 14 = .ok (.laload, 1) := by decide +kernel
theorem dX3_meetsGoal_15 : decode cX3_meetsGoal 15 = .ok (.lmul, 1) := by decide +kernel
theorem dX3_meetsGoal_16 : decode cX3_meetsGoal 16 = .ok (.aload_n 0, 1) := by decide +kernel
theorem dX3_meetsGoal_17 : decode cX3_meetsGoal 17 = .ok (.getfield 9, 3) := by decide +kernel
theorem dX3_meetsGoal_20 : decode cX3_meetsGoal 20 = .ok (.getfield 95, 3) := by decide +kernel
theorem dX3_meetsGoal_23 : decode cX3_meetsGoal 23 = .ok (.iload_n 1, 1) := by decide +kernel
theorem dX3_meetsGoal_24 : decode cX3_meetsGoal 24 = .ok (.laload, 1) := by decide +kernel
theorem dX3_meetsGoal_25 : decode cX3_meetsGoal 25 = .ok (.aload_n 0, 1) := by decide +kernel
theorem dX3_meetsGoal_26 : decode cX3_meetsGoal 26 = .ok (.getfield 9, 3) := by decide +kernel
theorem dX3_meetsGoal_29 : decode cX3_meetsGoal 29 = .ok (.getfield 98, 3) := by decide +kernel
theorem dX3_meetsGoal_32 : decode cX3_meetsGoal 32 = .ok (.iload_n 1, 1) := by decide +kernel
theorem dX3_meetsGoal_33 : decode cX3_meetsGoal 33 = .ok (.laload, 1) := by decide +kernel
theorem dX3_meetsGoal_34 : decode cX3_meetsGoal 34 = .ok (.lmul, 1) := by decide +kernel
theorem dX3_meetsGoal_35 : decode cX3_meetsGoal 35 = .ok (.lcmp, 1) := by decide +kernel
theorem dX3_meetsGoal_36 : decode cX3_meetsGoal 36 = .ok (.ifCond .lt 7, 3) := by decide +kernel
theorem dX3_meetsGoal_39 : decode cX3_meetsGoal 39 = .ok (.iconst 1, 1) := by decide +kernel
theorem dX3_meetsGoal_40 : decode cX3_meetsGoal 40 = .ok (.goto 4, 3) := by decide +kernel
theorem dX3_meetsGoal_43 : decode cX3_meetsGoal 43 = .ok (.iconst 0, 1) := by decide +kernel
theorem dX3_meetsGoal_44 : decode cX3_meetsGoal 44 = .ok (.ireturn, 1) := by decide +kernel
theorem dX3_isFair_0 : decode cX3_isFair 0 = .ok (.iconst 0, 1) := by decide +kernel
theorem dX3_isFair_1 : decode cX3_isFair 1 = .ok (.istore_n 1, 1) := by decide +kernel
theorem dX3_isFair_2 : decode cX3_isFair 2 = .ok (.iload_n 1, 1) := by decide +kernel
theorem dX3_isFair_3 : decode cX3_isFair 3 = .ok (.iconst 4, 1) := by decide +kernel
theorem dX3_isFair_4 : decode cX3_isFair 4 = .ok (.if_icmp .ge 46, 3) := by decide +kernel
theorem dX3_isFair_7 : decode cX3_isFair 7 = .ok (.aload_n 0, 1) := by decide +kernel
theorem dX3_isFair_8 : decode cX3_isFair 8 = .ok (.getfield 19, 3) := by decide +kernel
theorem dX3_isFair_11 : decode cX3_isFair 11 = .ok (.iload_n 1, 1) := by decide +kernel
theorem dX3_isFair_12 : decode cX3_isFair 12 = .ok (.laload, 1) := by decide +kernel
theorem dX3_isFair_13 : decode cX3_isFair 13 = .ok (.aload_n 0, 1) := by decide +kernel
theorem dX3_isFair_14 : decode cX3_isFair 14 = .ok (.getfield 9, 3) := by decide +kernel
theorem dX3_isFair_17 : decode cX3_isFair 17 = .ok (.getfield 101, 3) := by decide +kernel
theorem dX3_isFair_20 : decode cX3_isFair 20 = .ok (.lmul, 1) := by decide +kernel
theorem dX3_isFair_21 : decode cX3_isFair 21 = .ok (.aload_n 0, 1) := by decide +kernel
theorem dX3_isFair_22 : decode cX3_isFair 22 = .ok (.getfield 9, 3) := by decide +kernel
theorem dX3_isFair_25 : decode cX3_isFair 25 = .ok (.getfield 104, 3) := by decide +kernel
theorem dX3_isFair_28 : decode cX3_isFair 28 = .ok (.iload_n 1, 1) := by decide +kernel
theorem dX3_isFair_29 : decode cX3_isFair 29 = .ok (.laload, 1) := by decide +kernel
theorem dX3_isFair_30 : decode cX3_isFair 30 = .ok (.aload_n 0, 1) := by decide +kernel
theorem dX3_isFair_31 : decode cX3_isFair 31 = .ok (.getfield 9, 3) := by decide +kernel
theorem dX3_isFair_34 : decode cX3_isFair 34 = .ok (.getfield 107, 3) := by decide +kernel
theorem dX3_isFair_37 : decode cX3_isFair 37 = .ok (.lmul, 1) := by decide +kernel
theorem dX3_isFair_38 : decode cX3_isFair 38 = .ok (.lcmp, 1) := by decide +kernel
theorem dX3_isFair_39 : decode cX3_isFair 39 = .ok (.ifCond .le 5, 3) := by decide +kernel
theorem dX3_isFair_42 : decode cX3_isFair 42 = .ok (.iconst 0, 1) := by decide +kernel
theorem dX3_isFair_43 : decode cX3_isFair 43 = .ok (.ireturn, 1) := by decide +kernel
theorem dX3_isFair_44 : decode cX3_isFair 44 = .ok (.iinc 1 1, 3) := by decide +kernel
theorem dX3_isFair_47 : decode cX3_isFair 47 = .ok (.goto (-45), 3) := by decide +kernel
theorem dX3_isFair_50 : decode cX3_isFair 50 = .ok (.iconst 1, 1) := by decide +kernel
theorem dX3_isFair_51 : decode cX3_isFair 51 = .ok (.ireturn, 1) := by decide +kernel
theorem dX4_init_0 : decode cX4_init 0 = .ok (.aload_n 0, 1) := by decide +kernel
theorem dX4_init_1 : decode cX4_init 1 = .ok (.invokespecial 1, 3) := by decide +kernel
theorem dX4_init_4 : decode cX4_init 4 = .ok (.aload_n 0, 1) := by decide +kernel
theorem dX4_init_5 : decode cX4_init 5 = .ok (.new 7, 3) := by decide +kernel
theorem dX4_init_8 : decode cX4_init 8 = .ok (.dup, 1) := by decide +kernel
theorem dX4_init_9 : decode cX4_init 9 = .ok (.invokespecial 9, 3) := by decide +kernel
theorem dX4_init_12 : decode cX4_init 12 = .ok (.putfield 10, 3) := by decide +kernel
theorem dX4_init_15 : decode cX4_init 15 = .ok (.aload_n 0, 1) := by decide +kernel
theorem dX4_init_16 : decode cX4_init 16 = .ok (.new 16, 3) := by decide +kernel
theorem dX4_init_19 : decode cX4_init 19 = .ok (.dup, 1) := by decide +kernel
theorem dX4_init_20 : decode cX4_init 20 = .ok (.aload_n 0, 1) := by decide +kernel
theorem dX4_init_21 : decode cX4_init 21 = .ok (.getfield 10, 3) := by decide +kernel
theorem dX4_init_24 : decode cX4_init 24 = .ok (.invokespecial 18, 3) := by decide +kernel
theorem dX4_init_27 : decode cX4_init 27 = .ok (.putfield 21, 3) := by decide +kernel
theorem dX4_init_30 : decode cX4_init 30 = .ok (.aload_n 0, 1) := by decide +kernel
theorem dX4_init_31 : decode cX4_init 31 = .ok (.new 25, 3) := by decide +kernel
theorem dX4_init_34 : decode cX4_init 34 = .ok (.dup, 1) := by decide +kernel
theorem dX4_init_35 : decode cX4_init 35 = .ok (.invokespecial 27, 3) := by decide +kernel
theorem dX4_init_38 : decode cX4_init 38 = .ok (.putfield 28, 3) := by decide +kernel
theorem dX4_init_41 : decode cX4_init 41 = .ok (.aload_n 0, 1) := by decide +kernel
theorem dX4_init_42 : decode cX4_init 42 = .ok (.getfield 28, 3) := by decide +kernel
theorem dX4_init_45 : decode cX4_init 45 = .ok (.lload_n 1, 1) := by decide +kernel
theorem dX4_init_46 : decode cX4_init 46 = .ok (.invokevirtual 32, 3) := by decide +kernel
theorem dX4_init_49 : decode cX4_init 49 = .ok (.aload_n 0, 1) := by decide +kernel
theorem dX4_init_50 : decode cX4_init 50 = .ok (.new 25, 3) := by decide +kernel
theorem dX4_init_53 : decode cX4_init 53 = .ok (.dup, 1) := by decide +kernel
theorem dX4_init_54 : decode cX4_init 54 = .ok (.invokespecial 27, 3) := by decide +kernel
theorem dX4_init_57 : decode cX4_init 57 = .ok (.putfield 36, 3) := by decide +kernel
theorem dX4_init_60 : decode cX4_init 60 = .ok (.aload_n 0, 1) := by decide +kernel
theorem dX4_init_61 : decode cX4_init 61 = .ok (.new 39, 3) := by decide +kernel
theorem dX4_init_64 : decode cX4_init 64 = .ok (.dup, 1) := by decide +kernel
theorem dX4_init_65 : decode cX4_init 65 = .ok (.invokespecial 41, 3) := by decide +kernel
theorem dX4_init_68 : decode cX4_init 68 = .ok (.putfield 42, 3) := by decide +kernel
theorem dX4_init_71 : decode cX4_init 71 = .ok (.aload_n 0, 1) := by decide +kernel
theorem dX4_init_72 : decode cX4_init 72 = .ok (.bipush 24, 2) := by decide +kernel
theorem dX4_init_74 : decode cX4_init 74 = .ok (.newarray .int, 2) := by decide +kernel
theorem dX4_init_76 : decode cX4_init 76 = .ok (.putfield 46, 3) := by decide +kernel
theorem dX4_init_79 : decode cX4_init 79 = .ok (.aload_n 0, 1) := by decide +kernel
theorem dX4_init_80 : decode cX4_init 80 = .ok (.iconst (-1), 1) := by decide +kernel
theorem dX4_init_81 : decode cX4_init 81 = .ok (.putfield 50, 3) := by decide +kernel
theorem dX4_init_84 : decode cX4_init 84 = .ok (.aload_n 0, 1) := by decide +kernel
theorem dX4_init_85 : decode cX4_init 85 = .ok (.ldc2_w 54, 3) := by decide +kernel
theorem dX4_init_88 : decode cX4_init 88 = .ok (.putfield 56, 3) := by decide +kernel
theorem dX4_init_91 : decode cX4_init 91 = .ok (.return_, 1) := by decide +kernel
theorem dX4_cell_0 : decode cX4_cell 0 = .ok (.aload_n 0, 1) := by decide +kernel
theorem dX4_cell_1 : decode cX4_cell 1 = .ok (.getfield 10, 3) := by decide +kernel
theorem dX4_cell_4 : decode cX4_cell 4 = .ok (.getfield 60, 3) := by decide +kernel
theorem dX4_cell_7 : decode cX4_cell 7 = .ok (.bipush 24, 2) := by decide +kernel
theorem dX4_cell_9 : decode cX4_cell 9 = .ok (.if_icmp .ge 13, 3) := by decide +kernel
theorem dX4_cell_12 : decode cX4_cell 12 = .ok (.lload_n 1, 1) := by decide +kernel
theorem dX4_cell_13 : decode cX4_cell 13 = .ok (.ldc2_w 63, 3) := by decide +kernel
theorem dX4_cell_16 : decode cX4_cell 16 = .ok (.invokestatic 65, 3) := by decide +kernel
theorem dX4_cell_19 : decode cX4_cell 19 = .ok (.ifCond .ne 5, 3) := by decide +kernel
theorem dX4_cell_22 : decode cX4_cell 22 = .ok (.iconst (-1), 1) := by decide +kernel
theorem dX4_cell_23 : decode cX4_cell 23 = .ok (.ireturn, 1) := by decide +kernel
theorem dX4_cell_24 : decode cX4_cell 24 = .ok (.aload_n 0, 1) := by decide +kernel
theorem dX4_cell_25 : decode cX4_cell 25 = .ok (.getfield 10, 3) := by decide +kernel
theorem dX4_cell_28 : decode cX4_cell 28 = .ok (.getfield 69, 3) := by decide +kernel
theorem dX4_cell_31 : decode cX4_cell 31 = .ok (.aload_n 0, 1) := by decide +kernel
theorem dX4_cell_32 : decode cX4_cell 32 = .ok (.getfield 10, 3) := by decide +kernel
theorem dX4_cell_35 : decode cX4_cell 35 = .ok (.getfield 60, 3) := by decide +kernel
theorem dX4_cell_38 : decode cX4_cell 38 = .ok (.lload_n 1, 1) := by decide +kernel
theorem dX4_cell_39 : decode cX4_cell 39 = .ok (.lastore, 1) := by decide +kernel
theorem dX4_cell_40 : decode cX4_cell 40 = .ok (.aload_n 0, 1) := by decide +kernel
theorem dX4_cell_41 : decode cX4_cell 41 = .ok (.getfield 10, 3) := by decide +kernel
theorem dX4_cell_44 : decode cX4_cell 44 = .ok (.dup, 1) := by decide +kernel
theorem dX4_cell_45 : decode cX4_cell 45 = .ok (.getfield 60, 3) := by decide +kernel
theorem dX4_cell_48 : decode cX4_cell 48 = .ok (.iconst 1, 1) := by decide +kernel
theorem dX4_cell_49 : decode cX4_cell 49 = .ok (.iadd, 1) := by decide +kernel
theorem dX4_cell_50 : decode cX4_cell 50 = .ok (.putfield 60, 3) := by decide +kernel
theorem dX4_cell_53 : decode cX4_cell 53 = .ok (.aload_n 0, 1) := by decide +kernel
theorem dX4_cell_54 : decode cX4_cell 54 = .ok (.getfield 10, 3) := by decide +kernel
theorem dX4_cell_57 : decode cX4_cell 57 = .ok (.getfield 60, 3) := by decide +kernel
theorem dX4_cell_60 : decode cX4_cell 60 = .ok (.iconst 1, 1) := by decide +kernel
theorem dX4_cell_61 : decode cX4_cell 61 = .ok (.isub, 1) := by decide +kernel
theorem dX4_cell_62 : decode cX4_cell 62 = .ok (.ireturn, 1) := by decide +kernel
theorem dX4_holds_0 : decode cX4_holds 0 = .ok (.aload_n 0, 1) := by decide +kernel
theorem dX4_holds_1 : decode cX4_holds 1 = .ok (.getfield 10, 3) := by decide +kernel
theorem dX4_holds_4 : decode cX4_holds 4 = .ok (.iload_n 1, 1) := by decide +kernel
theorem dX4_holds_5 : decode cX4_holds 5 = .ok (.invokevirtual 73, 3) := by decide +kernel
theorem dX4_holds_8 : decode cX4_holds 8 = .ok (.ifCond .eq 10, 3) := by decide +kernel
theorem dX4_holds_11 : decode cX4_holds 11 = .ok (.iload_n 2, 1) := by decide +kernel
theorem dX4_holds_12 : decode cX4_holds 12 = .ok (.invokestatic 77, 3) := by decide +kernel
theorem dX4_holds_15 : decode cX4_holds 15 = .ok (.ifCond .ne 5, 3) := by decide +kernel
theorem dX4_holds_18 : decode cX4_holds 18 = .ok (.iconst 0, 1) := by decide +kernel
theorem dX4_holds_19 : decode cX4_holds 19 = .ok (.ireturn, 1) := by decide +kernel
theorem dX4_holds_20 : decode cX4_holds 20 = .ok (.lload_n 3, 1) := by decide +kernel
theorem dX4_holds_21 : decode cX4_holds 21 = .ok (.ldc2_w 80, 3) := by decide +kernel
theorem dX4_holds_24 : decode cX4_holds 24 = .ok (.invokestatic 65, 3) := by decide +kernel
theorem dX4_holds_27 : decode cX4_holds 27 = .ok (.ifCond .eq 19, 3) := by decide +kernel
theorem dX4_holds_30 : decode cX4_holds 30 = .ok (.lload 5, 2) := by decide +kernel
theorem dX4_holds_32 : decode cX4_holds 32 = .ok (.lconst 1, 1) := by decide +kernel
theorem dX4_holds_33 : decode cX4_holds 33 = .ok (.lcmp, 1) := by decide +kernel
theorem dX4_holds_34 : decode cX4_holds 34 = .ok (.ifCond .lt 12, 3) := by decide +kernel
theorem dX4_holds_37 : decode cX4_holds 37 = .ok (.lload 5, 2) := by decide +kernel
theorem dX4_holds_39 : decode cX4_holds 39 = .ok (.ldc2_w 82, 3) := by decide +kernel
theorem dX4_holds_42 : decode cX4_holds 42 = .ok (.lcmp, 1) := by decide +kernel
theorem dX4_holds_43 : decode cX4_holds 43 = .ok (.ifCond .le 5, 3) := by decide +kernel
theorem dX4_holds_46 : decode cX4_holds 46 = .ok (.iconst 0, 1) := by decide +kernel
theorem dX4_holds_47 : decode cX4_holds 47 = .ok (.ireturn, 1) := by decide +kernel
theorem dX4_holds_48 : decode cX4_holds 48 = .ok (.aload_n 0, 1) := by decide +kernel
theorem dX4_holds_49 : decode cX4_holds 49 = .ok (.getfield 10, 3) := by decide +kernel
theorem dX4_holds_52 : decode cX4_holds 52 = .ok (.iload_n 1, 1) := by decide +kernel
theorem dX4_holds_53 : decode cX4_holds 53 = .ok (.iload_n 2, 1) := by decide +kernel
theorem dX4_holds_54 : decode cX4_holds 54 = .ok (.ldc2_w 84, 3) := by decide +kernel
theorem dX4_holds_57 : decode cX4_holds 57 = .ok (.lload 5, 2) := by decide +kernel
theorem dX4_holds_59 : decode cX4_holds 59 = .ok (.ldiv, 1) := by decide +kernel
theorem dX4_holds_60 : decode cX4_holds 60 = .ok (.lload_n 3, 1) := by decide +kernel
theorem dX4_holds_61 : decode cX4_holds 61 = .ok (.lmul, 1) := by decide +kernel
theorem dX4_holds_62 : decode cX4_holds 62 = .ok (.invokevirtual 86, 3) := by decide +kernel
theorem dX4_holds_65 : decode cX4_holds 65 = .ok (.iconst 1, 1) := by decide +kernel
theorem dX4_holds_66 : decode cX4_holds 66 = .ok (.ireturn, 1) := by decide +kernel
theorem dX4_goal_0 : decode cX4_goal 0 = .ok (.iload_n 1, 1) := by decide +kernel
theorem dX4_goal_1 : decode cX4_goal 1 = .ok (.invokestatic 77, 3) := by decide +kernel
theorem dX4_goal_4 : decode cX4_goal 4 = .ok (.ifCond .eq 12, 3) := by decide +kernel
theorem dX4_goal_7 : decode cX4_goal 7 = .ok (.lload_n 2, 1) := by decide +kernel
theorem dX4_goal_8 : decode cX4_goal 8 = .ok (.lload 4, 2) := by decide +kernel
theorem dX4_goal_10 : decode cX4_goal 10 = .ok (.invokestatic 90, 3) := by decide +kernel
theorem dX4_goal_13 : decode cX4_goal 13 = .ok (.ifCond .ne 5, 3) := by decide +kernel
theorem dX4_goal_16 : decode cX4_goal 16 = .ok (.iconst 0, 1) := by decide +kernel
theorem dX4_goal_17 : decode cX4_goal 17 = .ok (.ireturn, 1) := by decide +kernel
theorem dX4_goal_18 : decode cX4_goal 18 = .ok (.aload_n 0, 1) := by decide +kernel
theorem dX4_goal_19 : decode cX4_goal 19 = .ok (.getfield 10, 3) := by decide +kernel
theorem dX4_goal_22 : decode cX4_goal 22 = .ok (.getfield 93, 3) := by decide +kernel
theorem dX4_goal_25 : decode cX4_goal 25 = .ok (.iload_n 1, 1) := by decide +kernel
theorem dX4_goal_26 : decode cX4_goal 26 = .ok (.lload_n 2, 1) := by decide +kernel
theorem dX4_goal_27 : decode cX4_goal 27 = .ok (.lastore, 1) := by decide +kernel
theorem dX4_goal_28 : decode cX4_goal 28 = .ok (.aload_n 0, 1) := by decide +kernel
theorem dX4_goal_29 : decode cX4_goal 29 = .ok (.getfield 10, 3) := by decide +kernel
theorem dX4_goal_32 : decode cX4_goal 32 = .ok (.getfield 96, 3) := by decide +kernel
theorem dX4_goal_35 : decode cX4_goal 35 = .ok (.iload_n 1, 1) := by decide +kernel
theorem dX4_goal_36 : decode cX4_goal 36 = .ok (.lload 4, 2) := by decide +kernel
theorem dX4_goal_38 : decode cX4_goal 38 = .ok (.lastore, 1) := by decide +kernel
theorem dX4_goal_39 : decode cX4_goal 39 = .ok (.iconst 1, 1) := by decide +kernel
theorem dX4_goal_40 : decode cX4_goal 40 = .ok (.ireturn, 1) := by decide +kernel
theorem dX4_near_0 : decode cX4_near 0 = .ok (.aload_n 0, 1) := by decide +kernel
theorem dX4_near_1 : decode cX4_near 1 = .ok (.getfield 10, 3) := by decide +kernel
theorem dX4_near_4 : decode cX4_near 4 = .ok (.iload_n 1, 1) := by decide +kernel
theorem dX4_near_5 : decode cX4_near 5 = .ok (.iload_n 2, 1) := by decide +kernel
theorem dX4_near_6 : decode cX4_near 6 = .ok (.invokevirtual 99, 3) := by decide +kernel
theorem dX4_near_9 : decode cX4_near 9 = .ok (.ifCond .eq 13, 3) := by decide +kernel
theorem dX4_near_12 : decode cX4_near 12 = .ok (.lload_n 3, 1) := by decide +kernel
theorem dX4_near_13 : decode cX4_near 13 = .ok (.ldc2_w 80, 3) := by decide +kernel
theorem dX4_near_16 : decode cX4_near 16 = .ok (.invokestatic 65, 3) := by decide +kernel
theorem dX4_near_19 : decode cX4_near 19 = .ok (.ifCond .ne 5, 3) := by decide +kernel
theorem dX4_near_22 : decode cX4_near 22 = .ok (.iconst 0, 1) := by decide +kernel
theorem dX4_near_23 : decode cX4_near 23 = .ok (.ireturn, 1) := by decide +kernel
theorem dX4_near_24 : decode cX4_near 24 = .ok (.aload_n 0, 1) := by decide +kernel
theorem dX4_near_25 : decode cX4_near 25 = .ok (.getfield 10, 3) := by decide +kernel
theorem dX4_near_28 : decode cX4_near 28 = .ok (.getfield 103, 3) := by decide +kernel
theorem dX4_near_31 : decode cX4_near 31 = .ok (.iload_n 1, 1) := by decide +kernel
theorem dX4_near_32 : decode cX4_near 32 = .ok (.bipush 24, 2) := by decide +kernel
theorem dX4_near_34 : decode cX4_near 34 = .ok (.imul, 1) := by decide +kernel
theorem dX4_near_35 : decode cX4_near 35 = .ok (.iload_n 2, 1) := by decide +kernel
theorem dX4_near_36 : decode cX4_near 36 = .ok (.iadd, 1) := by decide +kernel
theorem dX4_near_37 : decode cX4_near 37 = .ok (.lload_n 3, 1) := by decide +kernel
theorem dX4_near_38 : decode cX4_near 38 = .ok (.lastore, 1) := by decide +kernel
theorem dX4_near_39 : decode cX4_near 39 = .ok (.aload_n 0, 1) := by decide +kernel
theorem dX4_near_40 : decode cX4_near 40 = .ok (.getfield 10, 3) := by decide +kernel
theorem dX4_near_43 : decode cX4_near 43 = .ok (.getfield 103, 3) := by decide +kernel
theorem dX4_near_46 : decode cX4_near 46 = .ok (.iload_n 2, 1) := by decide +kernel
theorem dX4_near_47 : decode cX4_near 47 = .ok (.bipush 24, 2) := by decide +kernel
theorem dX4_near_49 : decode cX4_near 49 = .ok (.imul, 1) := by decide +kernel
theorem dX4_near_50 : decode cX4_near 50 = .ok (.iload_n 1, 1) := by decide +kernel
theorem dX4_near_51 : decode cX4_near 51 = .ok (.iadd, 1) := by decide +kernel
theorem dX4_near_52 : decode cX4_near 52 = .ok (.lload_n 3, 1) := by decide +kernel
theorem dX4_near_53 : decode cX4_near 53 = .ok (.lastore, 1) := by decide +kernel
theorem dX4_near_54 : decode cX4_near 54 = .ok (.iconst 1, 1) := by decide +kernel
theorem dX4_near_55 : decode cX4_near 55 = .ok (.ireturn, 1) := by decide +kernel
theorem dX4_weight_0 : decode cX4_weight 0 = .ok (.lload_n 1, 1) := by decide +kernel
theorem dX4_weight_1 : decode cX4_weight 1 = .ok (.ldc2_w 80, 3) := by decide +kernel
theorem dX4_weight_4 : decode cX4_weight 4 = .ok (.invokestatic 65, 3) := by decide +kernel
theorem dX4_weight_7 : decode cX4_weight 7 = .ok (.ifCond .ne 5, 3) := by decide +kernel
theorem dX4_weight_10 : decode cX4_weight 10 = .ok (.iconst 0, 1) := by decide +kernel
theorem dX4_weight_11 : decode cX4_weight 11 = .ok (.ireturn, 1) := by decide +kernel
theorem dX4_weight_12 : decode cX4_weight 12 = .ok (.aload_n 0, 1) := by decide +kernel
theorem dX4_weight_13 : decode cX4_weight 13 = .ok (.getfield 10, 3) := by decide +kernel
theorem dX4_weight_16 : decode cX4_weight 16 = .ok (.lload_n 1, 1) := by decide +kernel
theorem dX4_weight_17 : decode cX4_weight 17 = .ok (.putfield 106, 3) := by decide +kernel
theorem dX4_weight_20 : decode cX4_weight 20 = .ok (.iconst 1, 1) := by decide +kernel
theorem dX4_weight_21 : decode cX4_weight 21 = .ok (.ireturn, 1) := by decide +kernel
theorem dX4_must_0 : decode cX4_must 0 = .ok (.aload_n 0, 1) := by decide +kernel
theorem dX4_must_1 : decode cX4_must 1 = .ok (.getfield 10, 3) := by decide +kernel
theorem dX4_must_4 : decode cX4_must 4 = .ok (.iload_n 1, 1) := by decide +kernel
theorem dX4_must_5 : decode cX4_must 5 = .ok (.invokevirtual 73, 3) := by decide +kernel
theorem dX4_must_8 : decode cX4_must 8 = .ok (.ifCond .ne 5, 3) := by decide +kernel
theorem dX4_must_11 : decode cX4_must 11 = .ok (.iconst 0, 1) := by decide +kernel
theorem dX4_must_12 : decode cX4_must 12 = .ok (.ireturn, 1) := by decide +kernel
theorem dX4_must_13 : decode cX4_must 13 = .ok (.aload_n 0, 1) := by decide +kernel
theorem dX4_must_14 : decode cX4_must 14 = .ok (.getfield 10, 3) := by decide +kernel
theorem dX4_must_17 : decode cX4_must 17 = .ok (.dup, 1) := by decide +kernel
theorem dX4_must_18 : decode cX4_must 18 = .ok (.getfield 109, 3) := by decide +kernel
theorem dX4_must_21 : decode cX4_must 21 = .ok (.iconst 1, 1) := by decide +kernel
theorem dX4_must_22 : decode cX4_must 22 = .ok (.iload_n 1, 1) := by decide +kernel
theorem dX4_must_23 : decode cX4_must 23 = .ok (.ishl, 1) := by decide +kernel
theorem dX4_must_24 : decode cX4_must 24 = .ok (.ior, 1) := by decide +kernel
theorem dX4_must_25 : decode cX4_must 25 = .ok (.putfield 109, 3) := by decide +kernel
theorem dX4_must_28 : decode cX4_must 28 = .ok (.aload_n 0, 1) := by decide +kernel
theorem dX4_must_29 : decode cX4_must 29 = .ok (.getfield 10, 3) := by decide +kernel
theorem dX4_must_32 : decode cX4_must 32 = .ok (.dup, 1) := by decide +kernel
theorem dX4_must_33 : decode cX4_must 33 = .ok (.getfield 112, 3) := by decide +kernel
theorem dX4_must_36 : decode cX4_must 36 = .ok (.iconst 1, 1) := by decide +kernel
theorem dX4_must_37 : decode cX4_must 37 = .ok (.iload_n 1, 1) := by decide +kernel
theorem dX4_must_38 : decode cX4_must 38 = .ok (.ishl, 1) := by decide +kernel
theorem dX4_must_39 : decode cX4_must 39 = .ok (.iconst (-1), 1) := by decide +kernel
theorem dX4_must_40 : decode cX4_must 40 = .ok (.ixor, 1) := by decide +kernel
theorem dX4_must_41 : decode cX4_must 41 = .ok (.iand, 1) := by decide +kernel
theorem dX4_must_42 : decode cX4_must 42 = .ok (.putfield 112, 3) := by decide +kernel
theorem dX4_must_45 : decode cX4_must 45 = .ok (.iconst 1, 1) := by decide +kernel
theorem dX4_must_46 : decode cX4_must 46 = .ok (.ireturn, 1) := by decide +kernel
theorem dX4_bar_0 : decode cX4_bar 0 = .ok (.aload_n 0, 1) := by decide +kernel
theorem dX4_bar_1 : decode cX4_bar 1 = .ok (.getfield 10, 3) := by decide +kernel
theorem dX4_bar_4 : decode cX4_bar 4 = .ok (.iload_n 1, 1) := by decide +kernel
theorem dX4_bar_5 : decode cX4_bar 5 = .ok (.invokevirtual 73, 3) := by decide +kernel
theorem dX4_bar_8 : decode cX4_bar 8 = .ok (.ifCond .ne 5, 3) := by decide +kernel
theorem dX4_bar_11 : decode cX4_bar 11 = .ok (.iconst 0, 1) := by decide +kernel
theorem dX4_bar_12 : decode cX4_bar 12 = .ok (.ireturn, 1) := by decide +kernel
theorem dX4_bar_13 : decode cX4_bar 13 = .ok (.aload_n 0, 1) := by decide +kernel
theorem dX4_bar_14 : decode cX4_bar 14 = .ok (.getfield 10, 3) := by decide +kernel
theorem dX4_bar_17 : decode cX4_bar 17 = .ok (.dup, 1) := by decide +kernel
theorem dX4_bar_18 : decode cX4_bar 18 = .ok (.getfield 112, 3) := by decide +kernel
theorem dX4_bar_21 : decode cX4_bar 21 = .ok (.iconst 1, 1) := by decide +kernel
theorem dX4_bar_22 : decode cX4_bar 22 = .ok (.iload_n 1, 1) := by decide +kernel
theorem dX4_bar_23 : decode cX4_bar 23 = .ok (.ishl, 1) := by decide +kernel
theorem dX4_bar_24 : decode cX4_bar 24 = .ok (.ior, 1) := by decide +kernel
theorem dX4_bar_25 : decode cX4_bar 25 = .ok (.putfield 112, 3) := by decide +kernel
theorem dX4_bar_28 : decode cX4_bar 28 = .ok (.aload_n 0, 1) := by decide +kernel
theorem dX4_bar_29 : decode cX4_bar 29 = .ok (.getfield 10, 3) := by decide +kernel
theorem dX4_bar_32 : decode cX4_bar 32 = .ok (.dup, 1) := by decide +kernel
theorem dX4_bar_33 : decode cX4_bar 33 = .ok (.getfield 109, 3) := by decide +kernel
theorem dX4_bar_36 : decode cX4_bar 36 = .ok (.iconst 1, 1) := by decide +kernel
theorem dX4_bar_37 : decode cX4_bar 37 = .ok (.iload_n 1, 1) := by decide +kernel
theorem dX4_bar_38 : decode cX4_bar 38 = .ok (.ishl, 1) := by decide +kernel
theorem dX4_bar_39 : decode cX4_bar 39 = .ok (.iconst (-1), 1) := by decide +kernel
theorem dX4_bar_40 : decode cX4_bar 40 = .ok (.ixor, 1) := by decide +kernel
theorem dX4_bar_41 : decode cX4_bar 41 = .ok (.iand, 1) := by decide +kernel
theorem dX4_bar_42 : decode cX4_bar 42 = .ok (.putfield 109, 3) := by decide +kernel
theorem dX4_bar_45 : decode cX4_bar 45 = .ok (.iconst 1, 1) := by decide +kernel
theorem dX4_bar_46 : decode cX4_bar 46 = .ok (.ireturn, 1) := by decide +kernel
theorem dX4_zone_0 : decode cX4_zone 0 = .ok (.iload_n 1, 1) := by decide +kernel
theorem dX4_zone_1 : decode cX4_zone 1 = .ok (.ifCond .lt 25, 3) := by decide +kernel
theorem dX4_zone_4 : decode cX4_zone 4 = .ok (.iload_n 1, 1) := by decide +kernel
theorem dX4_zone_5 : decode cX4_zone 5 = .ok (.iconst 4, 1) := by decide +kernel
theorem dX4_zone_6 : decode cX4_zone 6 = .ok (.if_icmp .ge 20, 3) := by decide +kernel
theorem dX4_zone_9 : decode cX4_zone 9 = .ok (.iload_n 2, 1) := by decide +kernel
theorem dX4_zone_10 : decode cX4_zone 10 = .ok (.invokestatic 77, 3) := by decide +kernel
theorem dX4_zone_13 : decode cX4_zone 13 = .ok (.ifCond .eq 13, 3) := by decide +kernel
theorem dX4_zone_16 : decode cX4_zone 16 = .ok (.aload_n 0, 1) := by decide +kernel
theorem dX4_zone_17 : decode cX4_zone 17 = .ok (.getfield 42, 3) := by decide +kernel
theorem dX4_zone_20 : decode cX4_zone 20 = .ok (.getfield 115, 3) := by decide +kernel
theorem dX4_zone_23 : decode cX4_zone 23 = .ok (.ifCond .ne 5, 3) := by decide +kernel
theorem dX4_zone_26 : decode cX4_zone 26 = .ok (.iconst (-1), 1) := by decide +kernel
theorem dX4_zone_27 : decode cX4_zone 27 = .ok (.ireturn, 1) := by decide +kernel
theorem dX4_zone_28 : decode cX4_zone 28 = .ok (.iconst 0, 1) := by decide +kernel
theorem dX4_zone_29 : decode cX4_zone 29 = .ok (.istore_n 3, 1) := by decide +kernel
theorem dX4_zone_30 : decode cX4_zone 30 = .ok (.iload_n 1, 1) := by decide +kernel
theorem dX4_zone_31 : decode cX4_zone 31 = .ok (.istore 4, 2) := by decide +kernel
theorem dX4_zone_33 : decode cX4_zone 33 = .ok (.iload 4, 2) := by decide +kernel
theorem dX4_zone_35 : decode cX4_zone 35 = .ok (.aload_n 0, 1) := by decide +kernel
theorem dX4_zone_36 : decode cX4_zone 36 = .ok (.getfield 10, 3) := by decide +kernel
theorem dX4_zone_39 : decode cX4_zone 39 = .ok (.getfield 60, 3) := by decide +kernel
theorem dX4_zone_42 : decode cX4_zone 42 = .ok (.if_icmp .ge 47, 3) := by decide +kernel
theorem dX4_zone_45 : decode cX4_zone 45 = .ok (.aload_n 0, 1) := by decide +kernel
theorem dX4_zone_46 : decode cX4_zone 46 = .ok (.getfield 42, 3) := by decide +kernel
theorem dX4_zone_49 : decode cX4_zone 49 = .ok (.getfield 119, 3) := by decide +kernel
theorem dX4_zone_52 : decode cX4_zone 52 = .ok (.iload 4, 2) := by decide +kernel
theorem dX4_zone_54 : decode cX4_zone 54 = .ok (.invokestatic 120, 3) := by decide +kernel
theorem dX4_zone_57 : decode cX4_zone 57 = .ok (.ifCond .eq 26, 3) := by decide +kernel
theorem dX4_zone_60 : decode cX4_zone 60 = .ok (.aload_n 0, 1) := by decide +kernel
theorem dX4_zone_61 : decode cX4_zone 61 = .ok (.getfield 10, 3) := by decide +kernel
theorem dX4_zone_64 : decode cX4_zone 64 = .ok (.getfield 123, 3) := by decide +kernel
theorem dX4_zone_67 : decode cX4_zone 67 = .ok (.iload 4, 2) := by decide +kernel
theorem dX4_zone_69 : decode cX4_zone 69 = .ok (.bipush 8, 2) := by decide +kernel
theorem dX4_zone_71 : decode cX4_zone 71 = .ok (.imul, 1) := by decide +kernel
theorem dX4_zone_72 : decode cX4_zone 72 = .ok (.iload_n 2, 1) := by decide +kernel
theorem dX4_zone_73 : decode cX4_zone 73 = .ok (.iadd, 1) := by decide +kernel
theorem dX4_zone_74 : decode cX4_zone 74 = .ok (.laload, 1) := by decide +kernel
theorem dX4_zone_75 : decode cX4_zone 75 = .ok (.lconst 0, 1) := by decide +kernel
theorem dX4_zone_76 : decode cX4_zone 76 = .ok (.lcmp, 1) := by decide +kernel
theorem dX4_zone_77 : decode cX4_zone 77 = .ok (.ifCond .le 6, 3) := by decide +kernel
theorem dX4_zone_80 : decode cX4_zone 80 = .ok (.iinc 3 1, 3) := by decide +kernel
theorem dX4_zone_83 : decode cX4_zone 83 = .ok (.iinc 4 4, 3) := by decide +kernel
theorem dX4_zone_86 : decode cX4_zone 86 = .ok (.goto (-53), 3) := by decide +kernel
theorem dX4_zone_89 : decode cX4_zone 89 = .ok (.iload_n 3, 1) := by decide +kernel
theorem dX4_zone_90 : decode cX4_zone 90 = .ok (.ireturn, 1) := by decide +kernel
theorem dX4_run_0 : decode cX4_run 0 = .ok (.aload_n 0, 1) := by decide +kernel
theorem dX4_run_1 : decode cX4_run 1 = .ok (.aload_n 0, 1) := by decide +kernel
theorem dX4_run_2 : decode cX4_run 2 = .ok (.invokevirtual 126, 3) := by decide +kernel
theorem dX4_run_5 : decode cX4_run 5 = .ok (.putfield 130, 3) := by decide +kernel
theorem dX4_run_8 : decode cX4_run 8 = .ok (.aload_n 0, 1) := by decide +kernel
theorem dX4_run_9 : decode cX4_run 9 = .ok (.aload_n 0, 1) := by decide +kernel
theorem dX4_run_10 : decode cX4_run 10 = .ok (.getfield 42, 3) := by decide +kernel
theorem dX4_run_13 : decode cX4_run 13 = .ok (.getfield 119, 3) := by decide +kernel
theorem dX4_run_16 : decode cX4_run 16 = .ok (.putfield 133, 3) := by decide +kernel
theorem dX4_run_19 : decode cX4_run 19 = .ok (.aload_n 0, 1) := by decide +kernel
theorem dX4_run_20 : decode cX4_run 20 = .ok (.getfield 42, 3) := by decide +kernel
theorem dX4_run_23 : decode cX4_run 23 = .ok (.invokevirtual 136, 3) := by decide +kernel
theorem dX4_run_26 : decode cX4_run 26 = .ok (.lconst 1, 1) := by decide +kernel
theorem dX4_run_27 : decode cX4_run 27 = .ok (.aload_n 0, 1) := by decide +kernel
theorem dX4_run_28 : decode cX4_run 28 = .ok (.getfield 10, 3) := by decide +kernel
theorem dX4_run_31 : decode cX4_run 31 = .ok (.invokevirtual 139, 3) := by decide +kernel
theorem dX4_run_34 : decode cX4_run 34 = .ok (.invokestatic 142, 3) := by decide +kernel
theorem dX4_run_37 : decode cX4_run 37 = .ok (.lshl, 1) := by decide +kernel
theorem dX4_run_38 : decode cX4_run 38 = .ok (.lstore_n 3, 1) := by decide +kernel
theorem dX4_run_39 : decode cX4_run 39 = .ok (.lload_n 3, 1) := by decide +kernel
theorem dX4_run_40 : decode cX4_run 40 = .ok (.lload_n 1, 1) := by decide +kernel
theorem dX4_run_41 : decode cX4_run 41 = .ok (.lcmp, 1) := by decide +kernel
theorem dX4_run_42 : decode cX4_run 42 = .ok (.ifCond .gt 11, 3) := by decide +kernel
theorem dX4_run_45 : decode cX4_run 45 = .ok (.lload_n 3, 1) := by decide +kernel
theorem dX4_run_46 : decode cX4_run 46 = .ok (.ldc2_w 148, 3) := by decide +kernel
theorem dX4_run_49 : decode cX4_run 49 = .ok (.lcmp, 1) := by decide +kernel
theorem dX4_run_50 : decode cX4_run 50 = .ok (.ifCond .le 29, 3) := by decide +kernel
theorem dX4_run_53 : decode cX4_run 53 = .ok (.aload_n 0, 1) := by decide +kernel
theorem dX4_run_54 : decode cX4_run 54 = .ok (.iconst 2, 1) := by decide +kernel
theorem dX4_run_55 : decode cX4_run 55 = .ok (.putfield 50, 3) := by decide +kernel
theorem dX4_run_58 : decode cX4_run 58 = .ok (.aload_n 0, 1) := by decide +kernel
theorem dX4_run_59 : decode cX4_run 59 = .ok (.aload_n 0, 1) := by decide +kernel
theorem dX4_run_60 : decode cX4_run 60 = .ok (.getfield 10, 3) := by decide +kernel
theorem dX4_run_63 : decode cX4_run 63 = .ok (.aload_n 0, 1) := by decide +kernel
theorem dX4_run_64 : decode cX4_run 64 = .ok (.getfield 10, 3) := by decide +kernel
theorem dX4_run_67 : decode cX4_run 67 = .ok (.getfield 109, 3) := by decide +kernel
theorem dX4_run_70 : decode cX4_run 70 = .ok (.invokevirtual 150, 3) := by decide +kernel
theorem dX4_run_73 : decode cX4_run 73 = .ok (.putfield 56, 3) := by decide +kernel
theorem dX4_run_76 : decode cX4_run 76 = .ok (.goto 37, 3) := by decide +kernel
theorem dX4_run_79 : decode cX4_run 79 = .ok (.aload_n 0, 1) := by decide +kernel
theorem dX4_run_80 : decode cX4_run 80 = .ok (.invokevirtual 154, 3) := by decide +kernel
theorem dX4_run_83 : decode cX4_run 83 = .ok (.aload_n 0, 1) := by decide +kernel
theorem dX4_run_84 : decode cX4_run 84 = .ok (.aload_n 0, 1) := by decide +kernel
theorem dX4_run_85 : decode cX4_run 85 = .ok (.getfield 42, 3) := by decide +kernel
theorem dX4_run_88 : decode cX4_run 88 = .ok (.getfield 115, 3) := by decide +kernel
theorem dX4_run_91 : decode cX4_run 91 = .ok (.ifCond .eq 7, 3) := by decide +kernel
theorem dX4_run_94 : decode cX4_run 94 = .ok (.iconst 0, 1) := by decide +kernel
theorem dX4_run_95 : decode cX4_run 95 = .ok (.goto 4, 3) := by decide +kernel
theorem dX4_run_98 : decode cX4_run 98 = .ok (.iconst 1, 1) := by decide +kernel
theorem dX4_run_99 : decode cX4_run 99 = .ok (.putfield 50, 3) := by decide +kernel
theorem dX4_run_102 : decode cX4_run 102 = .ok (.aload_n 0, 1) := by decide +kernel
theorem dX4_run_103 : decode cX4_run 103 = .ok (.aload_n 0, 1) := by decide +kernel
theorem dX4_run_104 : decode cX4_run 104 = .ok (.getfield 42, 3) := by decide +kernel
theorem dX4_run_107 : decode cX4_run 107 = .ok (.getfield 157, 3) := by decide +kernel
theorem dX4_run_110 : decode cX4_run 110 = .ok (.putfield 56, 3) := by decide +kernel
theorem dX4_run_113 : decode cX4_run 113 = .ok (.aload_n 0, 1) := by decide +kernel
theorem dX4_run_114 : decode cX4_run 114 = .ok (.getfield 50, 3) := by decide +kernel
theorem dX4_run_117 : decode cX4_run 117 = .ok (.ireturn, 1) := by decide +kernel
theorem dX4_chosen_0 : decode cX4_chosen 0 = .ok (.aload_n 0, 1) := by decide +kernel
theorem dX4_chosen_1 : decode cX4_chosen 1 = .ok (.getfield 10, 3) := by decide +kernel
theorem dX4_chosen_4 : decode cX4_chosen 4 = .ok (.iload_n 1, 1) := by decide +kernel
theorem dX4_chosen_5 : decode cX4_chosen 5 = .ok (.invokevirtual 73, 3) := by decide +kernel
theorem dX4_chosen_8 : decode cX4_chosen 8 = .ok (.ifCond .eq 21, 3) := by decide +kernel
theorem dX4_chosen_11 : decode cX4_chosen 11 = .ok (.aload_n 0, 1) := by decide +kernel
theorem dX4_chosen_12 : decode cX4_chosen 12 = .ok (.getfield 42, 3) := by decide +kernel
theorem dX4_chosen_15 : decode cX4_chosen 15 = .ok (.getfield 119, 3) := by decide +kernel
theorem dX4_chosen_18 : decode cX4_chosen 18 = .ok (.iload_n 1, 1) := by decide +kernel
theorem dX4_chosen_19 : decode cX4_chosen 19 = .ok (.invokestatic 120, 3) := by decide +kernel
theorem dX4_chosen_22 : decode cX4_chosen 22 = .ok (.ifCond .eq 7, 3) := by decide +kernel
theorem dX4_chosen_25 : decode cX4_chosen 25 = .ok (.iconst 1, 1) := by decide +kernel
theorem dX4_chosen_26 : decode cX4_chosen 26 = .ok (.goto 4, 3) := by decide +kernel
theorem dX4_chosen_29 : decode cX4_chosen 29 = .ok (.iconst 0, 1) := by decide +kernel
theorem dX4_chosen_30 : decode cX4_chosen 30 = .ok (.ireturn, 1) := by decide +kernel
theorem dX4_cost_0 : decode cX4_cost 0 = .ok (.aload_n 0, 1) := by decide +kernel
theorem dX4_cost_1 : decode cX4_cost 1 = .ok (.getfield 42, 3) := by decide +kernel
theorem dX4_cost_4 : decode cX4_cost 4 = .ok (.getfield 157, 3) := by decide +kernel
theorem dX4_cost_7 : decode cX4_cost 7 = .ok (.lreturn, 1) := by decide +kernel
theorem dX4_bound_0 : decode cX4_bound 0 = .ok (.aload_n 0, 1) := by decide +kernel
theorem dX4_bound_1 : decode cX4_bound 1 = .ok (.getfield 56, 3) := by decide +kernel
theorem dX4_bound_4 : decode cX4_bound 4 = .ok (.lreturn, 1) := by decide +kernel
theorem dX4_met_0 : decode cX4_met 0 = .ok (.iload_n 1, 1) := by decide +kernel
theorem dX4_met_1 : decode cX4_met 1 = .ok (.invokestatic 77, 3) := by decide +kernel
theorem dX4_met_4 : decode cX4_met 4 = .ok (.ifCond .eq 13, 3) := by decide +kernel
theorem dX4_met_7 : decode cX4_met 7 = .ok (.aload_n 0, 1) := by decide +kernel
theorem dX4_met_8 : decode cX4_met 8 = .ok (.getfield 42, 3) := by decide +kernel
theorem dX4_met_11 : decode cX4_met 11 = .ok (.getfield 115, 3) := by decide +kernel
theorem dX4_met_14 : decode cX4_met 14 = .ok (.ifCond .ne 7, 3) := by decide +kernel
theorem dX4_met_17 : decode cX4_met 17 = .ok (.ldc2_w 54, 3) := by decide +kernel
theorem dX4_met_20 : decode cX4_met 20 = .ok (.lreturn, 1) := by decide +kernel
theorem dX4_met_21 : decode cX4_met 21 = .ok (.aload_n 0, 1) := by decide +kernel
theorem dX4_met_22 : decode cX4_met 22 = .ok (.getfield 21, 3) := by decide +kernel
theorem dX4_met_25 : decode cX4_met 25 = .ok (.aload_n 0, 1) := by decide +kernel
theorem dX4_met_26 : decode cX4_met 26 = .ok (.getfield 42, 3) := by decide +kernel
theorem dX4_met_29 : decode cX4_met 29 = .ok (.getfield 119, 3) := by decide +kernel
theorem dX4_met_32 : decode cX4_met 32 = .ok (.invokevirtual 160, 3) := by decide +kernel
theorem dX4_met_35 : decode cX4_met 35 = .ok (.aload_n 0, 1) := by decide +kernel
theorem dX4_met_36 : decode cX4_met 36 = .ok (.getfield 21, 3) := by decide +kernel
theorem dX4_met_39 : decode cX4_met 39 = .ok (.getfield 164, 3) := by decide +kernel
theorem dX4_met_42 : decode cX4_met 42 = .ok (.iload_n 1, 1) := by decide +kernel
theorem dX4_met_43 : decode cX4_met 43 = .ok (.laload, 1) := by decide +kernel
theorem dX4_met_44 : decode cX4_met 44 = .ok (.aload_n 0, 1) := by decide +kernel
theorem dX4_met_45 : decode cX4_met 45 = .ok (.getfield 10, 3) := by decide +kernel
theorem dX4_met_48 : decode cX4_met 48 = .ok (.getfield 165, 3) := by decide +kernel
theorem dX4_met_51 : decode cX4_met 51 = .ok (.iload_n 1, 1) := by decide +kernel
theorem dX4_met_52 : decode cX4_met 52 = .ok (.laload, 1) := by decide +kernel
theorem dX4_met_53 : decode cX4_met 53 = .ok (.iload_n 2, 1) := by decide +kernel
theorem dX4_met_54 : decode cX4_met 54 = .ok (.invokestatic 168, 3) := by decide +kernel
theorem dX4_met_57 : decode cX4_met 57 = .ok (.lreturn, 1) := by decide +kernel
theorem dX4_clash_0 : decode cX4_clash 0 = .ok (.aload_n 0, 1) := by decide +kernel
theorem dX4_clash_1 : decode cX4_clash 1 = .ok (.getfield 130, 3) := by decide +kernel
theorem dX4_clash_4 : decode cX4_clash 4 = .ok (.iload_n 1, 1) := by decide +kernel
theorem dX4_clash_5 : decode cX4_clash 5 = .ok (.invokestatic 172, 3) := by decide +kernel
theorem dX4_clash_8 : decode cX4_clash 8 = .ok (.ireturn, 1) := by decide +kernel
theorem dX4_proved_0 : decode cX4_proved 0 = .ok (.aload_n 0, 1) := by decide +kernel
theorem dX4_proved_1 : decode cX4_proved 1 = .ok (.getfield 50, 3) := by decide +kernel
theorem dX4_proved_4 : decode cX4_proved 4 = .ok (.ifCond .eq 11, 3) := by decide +kernel
theorem dX4_proved_7 : decode cX4_proved 7 = .ok (.aload_n 0, 1) := by decide +kernel
theorem dX4_proved_8 : decode cX4_proved 8 = .ok (.getfield 50, 3) := by decide +kernel
theorem dX4_proved_11 : decode cX4_proved 11 = .ok (.iconst 1, 1) := by decide +kernel
theorem dX4_proved_12 : decode cX4_proved 12 = .ok (.if_icmp .ne 7, 3) := by decide +kernel
theorem dX4_proved_15 : decode cX4_proved 15 = .ok (.iconst 1, 1) := by decide +kernel
theorem dX4_proved_16 : decode cX4_proved 16 = .ok (.goto 4, 3) := by decide +kernel
theorem dX4_proved_19 : decode cX4_proved 19 = .ok (.iconst 0, 1) := by decide +kernel
theorem dX4_proved_20 : decode cX4_proved 20 = .ok (.ireturn, 1) := by decide +kernel
theorem dX4_improve_0 : decode cX4_improve 0 = .ok (.iload_n 1, 1) := by decide +kernel
theorem dX4_improve_1 : decode cX4_improve 1 = .ok (.iconst 1, 1) := by decide +kernel
theorem dX4_improve_2 : decode cX4_improve 2 = .ok (.if_icmp .lt 20, 3) := by decide +kernel
theorem dX4_improve_5 : decode cX4_improve 5 = .ok (.iload_n 1, 1) := by decide +kernel
theorem dX4_improve_6 : decode cX4_improve 6 = .ok (.sipush 1000, 3) := by decide +kernel
theorem dX4_improve_9 : decode cX4_improve 9 = .ok (.if_icmp .gt 13, 3) := by decide +kernel
theorem dX4_improve_12 : decode cX4_improve 12 = .ok (.aload_n 0, 1) := by decide +kernel
theorem dX4_improve_13 : decode cX4_improve 13 = .ok (.getfield 10, 3) := by decide +kernel
theorem dX4_improve_16 : decode cX4_improve 16 = .ok (.getfield 60, 3) := by decide +kernel
theorem dX4_improve_19 : decode cX4_improve 19 = .ok (.ifCond .ne 5, 3) := by decide +kernel
theorem dX4_improve_22 : decode cX4_improve 22 = .ok (.iconst (-1), 1) := by decide +kernel
theorem dX4_improve_23 : decode cX4_improve 23 = .ok (.ireturn, 1) := by decide +kernel
theorem dX4_improve_24 : decode cX4_improve 24 = .ok (.aload_n 0, 1) := by decide +kernel
theorem dX4_improve_25 : decode cX4_improve 25 = .ok (.aload_n 0, 1) := by decide +kernel
theorem dX4_improve_26 : decode cX4_improve 26 = .ok (.getfield 42, 3) := by decide +kernel
theorem dX4_improve_29 : decode cX4_improve 29 = .ok (.getfield 119, 3) := by decide +kernel
theorem dX4_improve_32 : decode cX4_improve 32 = .ok (.putfield 133, 3) := by decide +kernel
theorem dX4_improve_35 : decode cX4_improve 35 = .ok (.aload_n 0, 1) := by decide +kernel
theorem dX4_improve_36 : decode cX4_improve 36 = .ok (.getfield 42, 3) := by decide +kernel
theorem dX4_improve_39 : decode cX4_improve 39 = .ok (.invokevirtual 136, 3) := by decide +kernel
theorem dX4_improve_42 : decode cX4_improve 42 = .ok (.aload_n 0, 1) := by decide +kernel
theorem dX4_improve_43 : decode cX4_improve 43 = .ok (.aload_n 0, 1) := by decide +kernel
theorem dX4_improve_44 : decode cX4_improve 44 = .ok (.getfield 28, 3) := by decide +kernel
theorem dX4_improve_47 : decode cX4_improve 47 = .ok (.iload_n 1, 1) := by decide +kernel
theorem dX4_improve_48 : decode cX4_improve 48 = .ok (.invokevirtual 176, 3) := by decide +kernel
theorem dX4_improve_51 : decode cX4_improve 51 = .ok (.istore_n 2, 1) := by decide +kernel
theorem dX4_improve_52 : decode cX4_improve 52 = .ok (.iload_n 2, 1) := by decide +kernel
theorem dX4_improve_53 : decode cX4_improve 53 = .ok (.iconst (-1), 1) := by decide +kernel
theorem dX4_improve_54 : decode cX4_improve 54 = .ok (.if_icmp .eq 24, 3) := by decide +kernel
theorem dX4_improve_57 : decode cX4_improve 57 = .ok (.aload_n 0, 1) := by decide +kernel
theorem dX4_improve_58 : decode cX4_improve 58 = .ok (.getfield 42, 3) := by decide +kernel
theorem dX4_improve_61 : decode cX4_improve 61 = .ok (.aload_n 0, 1) := by decide +kernel
theorem dX4_improve_62 : decode cX4_improve 62 = .ok (.getfield 21, 3) := by decide +kernel
theorem dX4_improve_65 : decode cX4_improve 65 = .ok (.getfield 180, 3) := by decide +kernel
theorem dX4_improve_68 : decode cX4_improve 68 = .ok (.aload_n 0, 1) := by decide +kernel
theorem dX4_improve_69 : decode cX4_improve 69 = .ok (.getfield 21, 3) := by decide +kernel
theorem dX4_improve_72 : decode cX4_improve 72 = .ok (.invokevirtual 181, 3) := by decide +kernel
theorem dX4_improve_75 : decode cX4_improve 75 = .ok (.invokevirtual 184, 3) := by decide +kernel
theorem dX4_improve_78 : decode cX4_improve 78 = .ok (.iload_n 2, 1) := by decide +kernel
theorem dX4_improve_79 : decode cX4_improve 79 = .ok (.ireturn, 1) := by decide +kernel
theorem dX4_often_0 : decode cX4_often 0 = .ok (.aload_n 0, 1) := by decide +kernel
theorem dX4_often_1 : decode cX4_often 1 = .ok (.getfield 10, 3) := by decide +kernel
theorem dX4_often_4 : decode cX4_often 4 = .ok (.iload_n 1, 1) := by decide +kernel
theorem dX4_often_5 : decode cX4_often 5 = .ok (.invokevirtual 73, 3) := by decide +kernel
theorem dX4_often_8 : decode cX4_often 8 = .ok (.ifCond .eq 14, 3) := by decide +kernel
theorem dX4_often_11 : decode cX4_often 11 = .ok (.iload_n 2, 1) := by decide +kernel
theorem dX4_often_12 : decode cX4_often 12 = .ok (.iconst 1, 1) := by decide +kernel
theorem dX4_often_13 : decode cX4_often 13 = .ok (.if_icmp .lt 9, 3) := by decide +kernel
theorem dX4_often_16 : decode cX4_often 16 = .ok (.iload_n 2, 1) := by decide +kernel
theorem dX4_often_17 : decode cX4_often 17 = .ok (.bipush 20, 2) := by decide +kernel
theorem dX4_often_19 : decode cX4_often 19 = .ok (.if_icmp .le 7, 3) := by decide +kernel
theorem dX4_often_22 : decode cX4_often 22 = .ok (.ldc2_w 54, 3) := by decide +kernel
theorem dX4_often_25 : decode cX4_often 25 = .ok (.lreturn, 1) := by decide +kernel
theorem dX4_often_26 : decode cX4_often 26 = .ok (.lconst 0, 1) := by decide +kernel
theorem dX4_often_27 : decode cX4_often 27 = .ok (.lstore_n 3, 1) := by decide +kernel
theorem dX4_often_28 : decode cX4_often 28 = .ok (.iconst 1, 1) := by decide +kernel
theorem dX4_often_29 : decode cX4_often 29 = .ok (.istore 5, 2) := by decide +kernel
theorem dX4_often_31 : decode cX4_often 31 = .ok (.iload 5, 2) := by decide +kernel
theorem dX4_often_33 : decode cX4_often 33 = .ok (.iload_n 2, 1) := by decide +kernel
theorem dX4_often_34 : decode cX4_often 34 = .ok (.if_icmp .gt 55, 3) := by decide +kernel
theorem dX4_often_37 : decode cX4_often 37 = .ok (.aload_n 0, 1) := by decide +kernel
theorem dX4_often_38 : decode cX4_often 38 = .ok (.getfield 36, 3) := by decide +kernel
theorem dX4_often_41 : decode cX4_often 41 = .ok (.iload 5, 2) := by decide +kernel
theorem dX4_often_43 : decode cX4_often 43 = .ok (.i2l, 1) := by decide +kernel
theorem dX4_often_44 : decode cX4_often 44 = .ok (.invokevirtual 32, 3) := by decide +kernel
theorem dX4_often_47 : decode cX4_often 47 = .ok (.aload_n 0, 1) := by decide +kernel
theorem dX4_often_48 : decode cX4_often 48 = .ok (.aload_n 0, 1) := by decide +kernel
theorem dX4_often_49 : decode cX4_often 49 = .ok (.getfield 36, 3) := by decide +kernel
theorem dX4_often_52 : decode cX4_often 52 = .ok (.bipush 40, 2) := by decide +kernel
theorem dX4_often_54 : decode cX4_often 54 = .ok (.invokevirtual 176, 3) := by decide +kernel
theorem dX4_often_57 : decode cX4_often 57 = .ok (.iconst (-1), 1) := by decide +kernel
theorem dX4_often_58 : decode cX4_often 58 = .ok (.if_icmp .ne 7, 3) := by decide +kernel
theorem dX4_often_61 : decode cX4_often 61 = .ok (.ldc2_w 54, 3) := by decide +kernel
theorem dX4_often_64 : decode cX4_often 64 = .ok (.lreturn, 1) := by decide +kernel
theorem dX4_often_65 : decode cX4_often 65 = .ok (.aload_n 0, 1) := by decide +kernel
theorem dX4_often_66 : decode cX4_often 66 = .ok (.getfield 21, 3) := by decide +kernel
theorem dX4_often_69 : decode cX4_often 69 = .ok (.getfield 180, 3) := by decide +kernel
theorem dX4_often_72 : decode cX4_often 72 = .ok (.iload_n 1, 1) := by decide +kernel
theorem dX4_often_73 : decode cX4_often 73 = .ok (.invokestatic 120, 3) := by decide +kernel
theorem dX4_often_76 : decode cX4_often 76 = .ok (.ifCond .eq 7, 3) := by decide +kernel
theorem dX4_often_79 : decode cX4_often 79 = .ok (.lload_n 3, 1) := by decide +kernel
theorem dX4_often_80 : decode cX4_often 80 = .ok (.lconst 1, 1) := by decide +kernel
theorem dX4_often_81 : decode cX4_often 81 = .ok (.ladd, 1) := by decide +kernel
theorem dX4_often_82 : decode cX4_often 82 = .ok (.lstore_n 3, 1) := by decide +kernel
theorem dX4_often_83 : decode cX4_often 83 = .ok (.iinc 5 1, 3) := by decide +kernel
theorem dX4_often_86 : decode cX4_often 86 = .ok (.goto (-55), 3) := by decide +kernel
theorem dX4_often_89 : decode cX4_often 89 = .ok (.lload_n 3, 1) := by decide +kernel
theorem dX4_often_90 : decode cX4_often 90 = .ok (.lreturn, 1) := by decide +kernel
theorem dX4_port_0 : decode cX4_port 0 = .ok (.aload_n 0, 1) := by decide +kernel
theorem dX4_port_1 : decode cX4_port 1 = .ok (.getfield 10, 3) := by decide +kernel
theorem dX4_port_4 : decode cX4_port 4 = .ok (.iload_n 1, 1) := by decide +kernel
theorem dX4_port_5 : decode cX4_port 5 = .ok (.invokevirtual 73, 3) := by decide +kernel
theorem dX4_port_8 : decode cX4_port 8 = .ok (.ifCond .eq 20, 3) := by decide +kernel
theorem dX4_port_11 : decode cX4_port 11 = .ok (.iload_n 2, 1) := by decide +kernel
theorem dX4_port_12 : decode cX4_port 12 = .ok (.invokestatic 188, 3) := by decide +kernel
theorem dX4_port_15 : decode cX4_port 15 = .ok (.ifCond .eq 13, 3) := by decide +kernel
theorem dX4_port_18 : decode cX4_port 18 = .ok (.lload_n 3, 1) := by decide +kernel
theorem dX4_port_19 : decode cX4_port 19 = .ok (.ldc2_w 63, 3) := by decide +kernel
theorem dX4_port_22 : decode cX4_port 22 = .ok (.invokestatic 65, 3) := by decide +kernel
theorem dX4_port_25 : decode cX4_port 25 = .ok (.ifCond .ne 5, 3) := by decide +kernel
theorem dX4_port_28 : decode cX4_port 28 = .ok (.iconst 0, 1) := by decide +kernel
theorem dX4_port_29 : decode cX4_port 29 = .ok (.ireturn, 1) := by decide +kernel
theorem dX4_port_30 : decode cX4_port 30 = .ok (.aload_n 0, 1) := by decide +kernel
theorem dX4_port_31 : decode cX4_port 31 = .ok (.getfield 10, 3) := by decide +kernel
theorem dX4_port_34 : decode cX4_port 34 = .ok (.iload_n 1, 1) := by decide +kernel
theorem dX4_port_35 : decode cX4_port 35 = .ok (.iload_n 2, 1) := by decide +kernel
theorem dX4_port_36 : decode cX4_port 36 = .ok (.lload_n 3, 1) := by decide +kernel
theorem dX4_port_37 : decode cX4_port 37 = .ok (.invokevirtual 191, 3) := by decide +kernel
theorem dX4_port_40 : decode cX4_port 40 = .ok (.iconst 1, 1) := by decide +kernel
theorem dX4_port_41 : decode cX4_port 41 = .ok (.ireturn, 1) := by decide +kernel
theorem dX4_loss_0 : decode cX4_loss 0 = .ok (.iload_n 1, 1) := by decide +kernel
theorem dX4_loss_1 : decode cX4_loss 1 = .ok (.invokestatic 188, 3) := by decide +kernel
theorem dX4_loss_4 : decode cX4_loss 4 = .ok (.ifCond .eq 13, 3) := by decide +kernel
theorem dX4_loss_7 : decode cX4_loss 7 = .ok (.aload_n 0, 1) := by decide +kernel
theorem dX4_loss_8 : decode cX4_loss 8 = .ok (.getfield 42, 3) := by decide +kernel
theorem dX4_loss_11 : decode cX4_loss 11 = .ok (.getfield 115, 3) := by decide +kernel
theorem dX4_loss_14 : decode cX4_loss 14 = .ok (.ifCond .ne 7, 3) := by decide +kernel
theorem dX4_loss_17 : decode cX4_loss 17 = .ok (.ldc2_w 54, 3) := by decide +kernel
theorem dX4_loss_20 : decode cX4_loss 20 = .ok (.lreturn, 1) := by decide +kernel
theorem dX4_loss_21 : decode cX4_loss 21 = .ok (.aload_n 0, 1) := by decide +kernel
theorem dX4_loss_22 : decode cX4_loss 22 = .ok (.getfield 21, 3) := by decide +kernel
theorem dX4_loss_25 : decode cX4_loss 25 = .ok (.aload_n 0, 1) := by decide +kernel
theorem dX4_loss_26 : decode cX4_loss 26 = .ok (.getfield 42, 3) := by decide +kernel
theorem dX4_loss_29 : decode cX4_loss 29 = .ok (.getfield 119, 3) := by decide +kernel
theorem dX4_loss_32 : decode cX4_loss 32 = .ok (.invokevirtual 160, 3) := by decide +kernel
theorem dX4_loss_35 : decode cX4_loss 35 = .ok (.aload_n 0, 1) := by decide +kernel
theorem dX4_loss_36 : decode cX4_loss 36 = .ok (.getfield 21, 3) := by decide +kernel
theorem dX4_loss_39 : decode cX4_loss 39 = .ok (.getfield 194, 3) := by decide +kernel
theorem dX4_loss_42 : decode cX4_loss 42 = .ok (.iload_n 1, 1) := by decide +kernel
theorem dX4_loss_43 : decode cX4_loss 43 = .ok (.laload, 1) := by decide +kernel
theorem dX4_loss_44 : decode cX4_loss 44 = .ok (.aload_n 0, 1) := by decide +kernel
theorem dX4_loss_45 : decode cX4_loss 45 = .ok (.getfield 10, 3) := by decide +kernel
theorem dX4_loss_48 : decode cX4_loss 48 = .ok (.getfield 197, 3) := by decide +kernel
theorem dX4_loss_51 : decode cX4_loss 51 = .ok (.iload_n 1, 1) := by decide +kernel
theorem dX4_loss_52 : decode cX4_loss 52 = .ok (.laload, 1) := by decide +kernel
theorem dX4_loss_53 : decode cX4_loss 53 = .ok (.iload_n 2, 1) := by decide +kernel
theorem dX4_loss_54 : decode cX4_loss 54 = .ok (.invokestatic 168, 3) := by decide +kernel
theorem dX4_loss_57 : decode cX4_loss 57 = .ok (.lreturn, 1) := by decide +kernel
theorem dX4_fair_0 : decode cX4_fair 0 = .ok (.lload_n 1, 1) := by decide +kernel
theorem dX4_fair_1 : decode cX4_fair 1 = .ok (.lload_n 3, 1) := by decide +kernel
theorem dX4_fair_2 : decode cX4_fair 2 = .ok (.invokestatic 90, 3) := by decide +kernel
theorem dX4_fair_5 : decode cX4_fair 5 = .ok (.ifCond .ne 5, 3) := by decide +kernel
theorem dX4_fair_8 : decode cX4_fair 8 = .ok (.iconst 0, 1) := by decide +kernel
theorem dX4_fair_9 : decode cX4_fair 9 = .ok (.ireturn, 1) := by decide +kernel
theorem dX4_fair_10 : decode cX4_fair 10 = .ok (.aload_n 0, 1) := by decide +kernel
theorem dX4_fair_11 : decode cX4_fair 11 = .ok (.getfield 10, 3) := by decide +kernel
theorem dX4_fair_14 : decode cX4_fair 14 = .ok (.lload_n 1, 1) := by decide +kernel
theorem dX4_fair_15 : decode cX4_fair 15 = .ok (.putfield 200, 3) := by decide +kernel
theorem dX4_fair_18 : decode cX4_fair 18 = .ok (.aload_n 0, 1) := by decide +kernel
theorem dX4_fair_19 : decode cX4_fair 19 = .ok (.getfield 10, 3) := by decide +kernel
theorem dX4_fair_22 : decode cX4_fair 22 = .ok (.lload_n 3, 1) := by decide +kernel
theorem dX4_fair_23 : decode cX4_fair 23 = .ok (.putfield 203, 3) := by decide +kernel
theorem dX4_fair_26 : decode cX4_fair 26 = .ok (.iconst 1, 1) := by decide +kernel
theorem dX4_fair_27 : decode cX4_fair 27 = .ok (.ireturn, 1) := by decide +kernel
theorem dX4_border_0 : decode cX4_border 0 = .ok (.aload_n 0, 1) := by decide +kernel
theorem dX4_border_1 : decode cX4_border 1 = .ok (.getfield 42, 3) := by decide +kernel
theorem dX4_border_4 : decode cX4_border 4 = .ok (.getfield 115, 3) := by decide +kernel
theorem dX4_border_7 : decode cX4_border 7 = .ok (.ifCond .ne 7, 3) := by decide +kernel
theorem dX4_border_10 : decode cX4_border 10 = .ok (.ldc2_w 54, 3) := by decide +kernel
theorem dX4_border_13 : decode cX4_border 13 = .ok (.lreturn, 1) := by decide +kernel
theorem dX4_border_14 : decode cX4_border 14 = .ok (.aload_n 0, 1) := by decide +kernel
theorem dX4_border_15 : decode cX4_border 15 = .ok (.getfield 21, 3) := by decide +kernel
theorem dX4_border_18 : decode cX4_border 18 = .ok (.aload_n 0, 1) := by decide +kernel
theorem dX4_border_19 : decode cX4_border 19 = .ok (.getfield 42, 3) := by decide +kernel
theorem dX4_border_22 : decode cX4_border 22 = .ok (.getfield 119, 3) := by decide +kernel
theorem dX4_border_25 : decode cX4_border 25 = .ok (.invokevirtual 160, 3) := by decide +kernel
theorem dX4_border_28 : decode cX4_border 28 = .ok (.aload_n 0, 1) := by decide +kernel
theorem dX4_border_29 : decode cX4_border 29 = .ok (.getfield 21, 3) := by decide +kernel
theorem dX4_border_32 : decode cX4_border 32 = .ok (.getfield 206, 3) := by decide +kernel
theorem dX4_border_35 : decode cX4_border 35 = .ok (.lreturn, 1) := by decide +kernel
theorem dX4_size_0 : decode cX4_size 0 = .ok (.iload_n 1, 1) := by decide +kernel
theorem dX4_size_1 : decode cX4_size 1 = .ok (.ifCond .lt 9, 3) := by decide +kernel
theorem dX4_size_4 : decode cX4_size 4 = .ok (.iload_n 1, 1) := by decide +kernel
theorem dX4_size_5 : decode cX4_size 5 = .ok (.bipush 24, 2) := by decide +kernel
theorem dX4_size_7 : decode cX4_size 7 = .ok (.if_icmp .le 5, 3) := by decide +kernel
theorem dX4_size_10 : decode cX4_size 10 = .ok (.iconst (-1), 1) := by decide +kernel
theorem dX4_size_11 : decode cX4_size 11 = .ok (.ireturn, 1) := by decide +kernel
theorem dX4_size_12 : decode cX4_size 12 = .ok (.aload_n 0, 1) := by decide +kernel
theorem dX4_size_13 : decode cX4_size 13 = .ok (.getfield 10, 3) := by decide +kernel
theorem dX4_size_16 : decode cX4_size 16 = .ok (.iload_n 1, 1) := by decide +kernel
theorem dX4_size_17 : decode cX4_size 17 = .ok (.putfield 209, 3) := by decide +kernel
theorem dX4_size_20 : decode cX4_size 20 = .ok (.aload_n 0, 1) := by decide +kernel
theorem dX4_size_21 : decode cX4_size 21 = .ok (.getfield 10, 3) := by decide +kernel
theorem dX4_size_24 : decode cX4_size 24 = .ok (.getfield 60, 3) := by decide +kernel
theorem dX4_size_27 : decode cX4_size 27 = .ok (.ireturn, 1) := by decide +kernel
theorem dX4_year_0 : decode cX4_year 0 = .ok (.aload_n 0, 1) := by decide +kernel
theorem dX4_year_1 : decode cX4_year 1 = .ok (.getfield 10, 3) := by decide +kernel
theorem dX4_year_4 : decode cX4_year 4 = .ok (.iload_n 1, 1) := by decide +kernel
theorem dX4_year_5 : decode cX4_year 5 = .ok (.invokevirtual 73, 3) := by decide +kernel
theorem dX4_year_8 : decode cX4_year 8 = .ok (.ifCond .eq 17, 3) := by decide +kernel
theorem dX4_year_11 : decode cX4_year 11 = .ok (.aload_n 0, 1) := by decide +kernel
theorem dX4_year_12 : decode cX4_year 12 = .ok (.getfield 42, 3) := by decide +kernel
theorem dX4_year_15 : decode cX4_year 15 = .ok (.getfield 119, 3) := by decide +kernel
theorem dX4_year_18 : decode cX4_year 18 = .ok (.iload_n 1, 1) := by decide +kernel
theorem dX4_year_19 : decode cX4_year 19 = .ok (.invokestatic 120, 3) := by decide +kernel
theorem dX4_year_22 : decode cX4_year 22 = .ok (.ifCond .ne 5, 3) := by decide +kernel
theorem dX4_year_25 : decode cX4_year 25 = .ok (.iconst (-1), 1) := by decide +kernel
theorem dX4_year_26 : decode cX4_year 26 = .ok (.ireturn, 1) := by decide +kernel
theorem dX4_year_27 : decode cX4_year 27 = .ok (.iconst 0, 1) := by decide +kernel
theorem dX4_year_28 : decode cX4_year 28 = .ok (.istore_n 2, 1) := by decide +kernel
theorem dX4_year_29 : decode cX4_year 29 = .ok (.iconst 0, 1) := by decide +kernel
theorem dX4_year_30 : decode cX4_year 30 = .ok (.istore_n 3, 1) := by decide +kernel
theorem dX4_year_31 : decode cX4_year 31 = .ok (.iload_n 3, 1) := by decide +kernel
theorem dX4_year_32 : decode cX4_year 32 = .ok (.aload_n 0, 1) := by decide +kernel
theorem dX4_year_33 : decode cX4_year 33 = .ok (.getfield 10, 3) := by decide +kernel
theorem dX4_year_36 : decode cX4_year 36 = .ok (.getfield 60, 3) := by decide +kernel
theorem dX4_year_39 : decode cX4_year 39 = .ok (.if_icmp .ge 38, 3) := by decide +kernel
theorem dX4_year_42 : decode cX4_year 42 = .ok (.aload_n 0, 1) := by decide +kernel
theorem dX4_year_43 : decode cX4_year 43 = .ok (.getfield 42, 3) := by decide +kernel
theorem dX4_year_46 : decode cX4_year 46 = .ok (.getfield 119, 3) := by decide +kernel
theorem dX4_year_49 : decode cX4_year 49 = .ok (.iload_n 3, 1) := by decide +kernel
theorem dX4_year_50 : decode cX4_year 50 = .ok (.invokestatic 120, 3) := by decide +kernel
theorem dX4_year_53 : decode cX4_year 53 = .ok (.ifCond .eq 18, 3) := by decide +kernel
theorem dX4_year_56 : decode cX4_year 56 = .ok (.aload_n 0, 1) := by decide +kernel
theorem dX4_year_57 : decode cX4_year 57 = .ok (.getfield 10, 3) := by decide +kernel
theorem dX4_year_60 : decode cX4_year 60 = .ok (.iload_n 3, 1) := by decide +kernel
theorem dX4_year_61 : decode cX4_year 61 = .ok (.iload_n 1, 1) := by decide +kernel
theorem dX4_year_62 : decode cX4_year 62 = .ok (.invokevirtual 212, 3) := by decide +kernel
theorem dX4_year_65 : decode cX4_year 65 = .ok (.ifCond .eq 6, 3) := by decide +kernel
theorem dX4_year_68 : decode cX4_year 68 = .ok (.iinc 2 1, 3) := by decide +kernel
theorem dX4_year_71 : decode cX4_year 71 = .ok (.iinc 3 1, 3) := by decide +kernel
theorem dX4_year_74 : decode cX4_year 74 = .ok (.goto (-43), 3) := by decide +kernel
theorem dX4_year_77 : decode cX4_year 77 = .ok (.iload_n 2, 1) := by decide +kernel
theorem dX4_year_78 : decode cX4_year 78 = .ok (.iconst 2, 1) := by decide +kernel
theorem dX4_year_79 : decode cX4_year 79 = .ok (.idiv, 1) := by decide +kernel
theorem dX4_year_80 : decode cX4_year 80 = .ok (.ireturn, 1) := by decide +kernel
theorem dX4_wind_0 : decode cX4_wind 0 = .ok (.aload_n 0, 1) := by decide +kernel
theorem dX4_wind_1 : decode cX4_wind 1 = .ok (.getfield 10, 3) := by decide +kernel
theorem dX4_wind_4 : decode cX4_wind 4 = .ok (.iload_n 1, 1) := by decide +kernel
theorem dX4_wind_5 : decode cX4_wind 5 = .ok (.invokevirtual 73, 3) := by decide +kernel
theorem dX4_wind_8 : decode cX4_wind 8 = .ok (.ifCond .eq 13, 3) := by decide +kernel
theorem dX4_wind_11 : decode cX4_wind 11 = .ok (.lload_n 2, 1) := by decide +kernel
theorem dX4_wind_12 : decode cX4_wind 12 = .ok (.ldc2_w 63, 3) := by decide +kernel
theorem dX4_wind_15 : decode cX4_wind 15 = .ok (.invokestatic 65, 3) := by decide +kernel
theorem dX4_wind_18 : decode cX4_wind 18 = .ok (.ifCond .ne 5, 3) := by decide +kernel
theorem dX4_wind_21 : decode cX4_wind 21 = .ok (.iconst 0, 1) := by decide +kernel
theorem dX4_wind_22 : decode cX4_wind 22 = .ok (.ireturn, 1) := by decide +kernel
theorem dX4_wind_23 : decode cX4_wind 23 = .ok (.aload_n 0, 1) := by decide +kernel
theorem dX4_wind_24 : decode cX4_wind 24 = .ok (.getfield 10, 3) := by decide +kernel
theorem dX4_wind_27 : decode cX4_wind 27 = .ok (.getfield 69, 3) := by decide +kernel
theorem dX4_wind_30 : decode cX4_wind 30 = .ok (.iload_n 1, 1) := by decide +kernel
theorem dX4_wind_31 : decode cX4_wind 31 = .ok (.laload, 1) := by decide +kernel
theorem dX4_wind_32 : decode cX4_wind 32 = .ok (.lload_n 2, 1) := by decide +kernel
theorem dX4_wind_33 : decode cX4_wind 33 = .ok (.ladd, 1) := by decide +kernel
theorem dX4_wind_34 : decode cX4_wind 34 = .ok (.ldc2_w 215, 3) := by decide +kernel
theorem dX4_wind_37 : decode cX4_wind 37 = .ok (.lcmp, 1) := by decide +kernel
theorem dX4_wind_38 : decode cX4_wind 38 = .ok (.ifCond .le 5, 3) := by decide +kernel
theorem dX4_wind_41 : decode cX4_wind 41 = .ok (.iconst 0, 1) := by decide +kernel
theorem dX4_wind_42 : decode cX4_wind 42 = .ok (.ireturn, 1) := by decide +kernel
theorem dX4_wind_43 : decode cX4_wind 43 = .ok (.aload_n 0, 1) := by decide +kernel
theorem dX4_wind_44 : decode cX4_wind 44 = .ok (.getfield 10, 3) := by decide +kernel
theorem dX4_wind_47 : decode cX4_wind 47 = .ok (.getfield 69, 3) := by decide +kernel
theorem dX4_wind_50 : decode cX4_wind 50 = .ok (.iload_n 1, 1) := by decide +kernel
theorem dX4_wind_51 : decode cX4_wind 51 = .ok (.dup2, 1) := by decide +kernel
theorem dX4_wind_52 : decode cX4_wind 52 = .ok (.laload, 1) := by decide +kernel
theorem dX4_wind_53 : decode cX4_wind 53 = .ok (.lload_n 2, 1) := by decide +kernel
theorem dX4_wind_54 : decode cX4_wind 54 = .ok (.ladd, 1) := by decide +kernel
theorem dX4_wind_55 : decode cX4_wind 55 = .ok (.lastore, 1) := by decide +kernel
theorem dX4_wind_56 : decode cX4_wind 56 = .ok (.iconst 1, 1) := by decide +kernel
theorem dX4_wind_57 : decode cX4_wind 57 = .ok (.ireturn, 1) := by decide +kernel
theorem dX4_unlike_0 : decode cX4_unlike 0 = .ok (.iload_n 1, 1) := by decide +kernel
theorem dX4_unlike_1 : decode cX4_unlike 1 = .ok (.ifCond .lt 9, 3) := by decide +kernel
theorem dX4_unlike_4 : decode cX4_unlike 4 = .ok (.iload_n 1, 1) := by decide +kernel
theorem dX4_unlike_5 : decode cX4_unlike 5 = .ok (.bipush 24, 2) := by decide +kernel
theorem dX4_unlike_7 : decode cX4_unlike 7 = .ok (.if_icmp .le 5, 3) := by decide +kernel
theorem dX4_unlike_10 : decode cX4_unlike 10 = .ok (.iconst (-1), 1) := by decide +kernel
theorem dX4_unlike_11 : decode cX4_unlike 11 = .ok (.ireturn, 1) := by decide +kernel
theorem dX4_unlike_12 : decode cX4_unlike 12 = .ok (.iconst 1, 1) := by decide +kernel
theorem dX4_unlike_13 : decode cX4_unlike 13 = .ok (.iload_n 1, 1) := by decide +kernel
theorem dX4_unlike_14 : decode cX4_unlike 14 = .ok (.ishl, 1) := by decide +kernel
theorem dX4_unlike_15 : decode cX4_unlike 15 = .ok (.iconst 1, 1) := by decide +kernel
theorem dX4_unlike_16 : decode cX4_unlike 16 = .ok (.isub, 1) := by decide +kernel
theorem dX4_unlike_17 : decode cX4_unlike 17 = .ok (.istore_n 2, 1) := by decide +kernel
theorem dX4_unlike_18 : decode cX4_unlike 18 = .ok (.aload_n 0, 1) := by decide +kernel
theorem dX4_unlike_19 : decode cX4_unlike 19 = .ok (.getfield 42, 3) := by decide +kernel
theorem dX4_unlike_22 : decode cX4_unlike 22 = .ok (.getfield 119, 3) := by decide +kernel
theorem dX4_unlike_25 : decode cX4_unlike 25 = .ok (.aload_n 0, 1) := by decide +kernel
theorem dX4_unlike_26 : decode cX4_unlike 26 = .ok (.getfield 133, 3) := by decide +kernel
theorem dX4_unlike_29 : decode cX4_unlike 29 = .ok (.ixor, 1) := by decide +kernel
theorem dX4_unlike_30 : decode cX4_unlike 30 = .ok (.iload_n 2, 1) := by decide +kernel
theorem dX4_unlike_31 : decode cX4_unlike 31 = .ok (.iand, 1) := by decide +kernel
theorem dX4_unlike_32 : decode cX4_unlike 32 = .ok (.invokestatic 142, 3) := by decide +kernel
theorem dX4_unlike_35 : decode cX4_unlike 35 = .ok (.ireturn, 1) := by decide +kernel
theorem dX4_far_0 : decode cX4_far 0 = .ok (.aload_n 0, 1) := by decide +kernel
theorem dX4_far_1 : decode cX4_far 1 = .ok (.getfield 10, 3) := by decide +kernel
theorem dX4_far_4 : decode cX4_far 4 = .ok (.iload_n 1, 1) := by decide +kernel
theorem dX4_far_5 : decode cX4_far 5 = .ok (.iload_n 2, 1) := by decide +kernel
theorem dX4_far_6 : decode cX4_far 6 = .ok (.invokevirtual 99, 3) := by decide +kernel
theorem dX4_far_9 : decode cX4_far 9 = .ok (.ifCond .ne 5, 3) := by decide +kernel
theorem dX4_far_12 : decode cX4_far 12 = .ok (.iconst 0, 1) := by decide +kernel
theorem dX4_far_13 : decode cX4_far 13 = .ok (.ireturn, 1) := by decide +kernel
theorem dX4_far_14 : decode cX4_far 14 = .ok (.iload_n 3, 1) := by decide +kernel
theorem dX4_far_15 : decode cX4_far 15 = .ok (.ifCond .ge 36, 3) := by decide +kernel
theorem dX4_far_18 : decode cX4_far 18 = .ok (.aload_n 0, 1) := by decide +kernel
theorem dX4_far_19 : decode cX4_far 19 = .ok (.getfield 10, 3) := by decide +kernel
theorem dX4_far_22 : decode cX4_far 22 = .ok (.getfield 217, 3) := by decide +kernel
theorem dX4_far_25 : decode cX4_far 25 = .ok (.iload_n 1, 1) := by decide +kernel
theorem dX4_far_26 : decode cX4_far 26 = .ok (.dup2, 1) := by decide +kernel
theorem dX4_far_27 : decode cX4_far 27 = .ok (.iaload, 1) := by decide +kernel
theorem dX4_far_28 : decode cX4_far 28 = .ok (.iconst 1, 1) := by decide +kernel
theorem dX4_far_29 : decode cX4_far 29 = .ok (.iload_n 2, 1) := by decide +kernel
theorem dX4_far_30 : decode cX4_far 30 = .ok (.ishl, 1) := by decide +kernel
theorem dX4_far_31 : decode cX4_far 31 = .ok (.ior, 1) := by decide +kernel
theorem dX4_far_32 : decode cX4_far 32 = .ok (.iastore, 1) := by decide +kernel
theorem dX4_far_33 : decode cX4_far 33 = .ok (.aload_n 0, 1) := by decide +kernel
theorem dX4_far_34 : decode cX4_far 34 = .ok (.getfield 10, 3) := by decide +kernel
theorem dX4_far_37 : decode cX4_far 37 = .ok (.getfield 217, 3) := by decide +kernel
theorem dX4_far_40 : decode cX4_far 40 = .ok (.iload_n 2, 1) := by decide +kernel
theorem dX4_far_41 : decode cX4_far 41 = .ok (.dup2, 1) := by decide +kernel
theorem dX4_far_42 : decode cX4_far 42 = .ok (.iaload, 1) := by decide +kernel
theorem dX4_far_43 : decode cX4_far 43 = .ok (.iconst 1, 1) := by decide +kernel
theorem dX4_far_44 : decode cX4_far 44 = .ok (.iload_n 1, 1) := by decide +kernel
theorem dX4_far_45 : decode cX4_far 45 = .ok (.ishl, 1) := by decide +kernel
theorem dX4_far_46 : decode cX4_far 46 = .ok (.ior, 1) := by decide +kernel
theorem dX4_far_47 : decode cX4_far 47 = .ok (.iastore, 1) := by decide +kernel
theorem dX4_far_48 : decode cX4_far 48 = .ok (.goto 37, 3) := by decide +kernel
theorem dX4_far_51 : decode cX4_far 51 = .ok (.aload_n 0, 1) := by decide +kernel
theorem dX4_far_52 : decode cX4_far 52 = .ok (.getfield 10, 3) := by decide +kernel
theorem dX4_far_55 : decode cX4_far 55 = .ok (.getfield 217, 3) := by decide +kernel
theorem dX4_far_58 : decode cX4_far 58 = .ok (.iload_n 1, 1) := by decide +kernel
theorem dX4_far_59 : decode cX4_far 59 = .ok (.dup2, 1) := by decide +kernel
theorem dX4_far_60 : decode cX4_far 60 = .ok (.iaload, 1) := by decide +kernel
theorem dX4_far_61 : decode cX4_far 61 = .ok (.iconst 1, 1) := by decide +kernel
theorem dX4_far_62 : decode cX4_far 62 = .ok (.iload_n 2, 1) := by decide +kernel
theorem dX4_far_63 : decode cX4_far 63 = .ok (.ishl, 1) := by decide +kernel
theorem dX4_far_64 : decode cX4_far 64 = .ok (.iconst (-1), 1) := by decide +kernel
theorem dX4_far_65 : decode cX4_far 65 = .ok (.ixor, 1) := by decide +kernel
theorem dX4_far_66 : decode cX4_far 66 = .ok (.iand, 1) := by decide +kernel
theorem dX4_far_67 : decode cX4_far 67 = .ok (.iastore, 1) := by decide +kernel
theorem dX4_far_68 : decode cX4_far 68 = .ok (.aload_n 0, 1) := by decide +kernel
theorem dX4_far_69 : decode cX4_far 69 = .ok (.getfield 10, 3) := by decide +kernel
theorem dX4_far_72 : decode cX4_far 72 = .ok (.getfield 217, 3) := by decide +kernel
theorem dX4_far_75 : decode cX4_far 75 = .ok (.iload_n 2, 1) := by decide +kernel
theorem dX4_far_76 : decode cX4_far 76 = .ok (.dup2, 1) := by decide +kernel
theorem dX4_far_77 : decode cX4_far 77 = .ok (.iaload, 1) := by decide +kernel
theorem dX4_far_78 : decode cX4_far 78 = .ok (.iconst 1, 1) := by decide +kernel
theorem dX4_far_79 : decode cX4_far 79 = .ok (.iload_n 1, 1) := by decide +kernel
theorem dX4_far_80 : decode cX4_far 80 = .ok (.ishl, 1) := by decide +kernel
theorem dX4_far_81 : decode cX4_far 81 = .ok (.iconst (-1), 1) := by decide +kernel
theorem dX4_far_82 : decode cX4_far 82 = .ok (.ixor, 1) := by decide +kernel
theorem dX4_far_83 : decode cX4_far 83 = .ok (.iand, 1) := by decide +kernel
theorem dX4_far_84 : decode cX4_far 84 = .ok (.iastore, 1) := by decide +kernel
theorem dX4_far_85 : decode cX4_far 85 = .ok (.iconst 1, 1) := by decide +kernel
theorem dX4_far_86 : decode cX4_far 86 = .ok (.ireturn, 1) := by decide +kernel
theorem dX4_tie_0 : decode cX4_tie 0 = .ok (.aload_n 0, 1) := by decide +kernel
theorem dX4_tie_1 : decode cX4_tie 1 = .ok (.getfield 42, 3) := by decide +kernel
theorem dX4_tie_4 : decode cX4_tie 4 = .ok (.getfield 115, 3) := by decide +kernel
theorem dX4_tie_7 : decode cX4_tie 7 = .ok (.ifCond .eq 14, 3) := by decide +kernel
theorem dX4_tie_10 : decode cX4_tie 10 = .ok (.aload_n 0, 1) := by decide +kernel
theorem dX4_tie_11 : decode cX4_tie 11 = .ok (.invokevirtual 220, 3) := by decide +kernel
theorem dX4_tie_14 : decode cX4_tie 14 = .ok (.iload_n 1, 1) := by decide +kernel
theorem dX4_tie_15 : decode cX4_tie 15 = .ok (.invokestatic 172, 3) := by decide +kernel
theorem dX4_tie_18 : decode cX4_tie 18 = .ok (.goto 4, 3) := by decide +kernel
theorem dX4_tie_21 : decode cX4_tie 21 = .ok (.iconst (-1), 1) := by decide +kernel
theorem dX4_tie_22 : decode cX4_tie 22 = .ok (.ireturn, 1) := by decide +kernel
theorem dX4_within_0 : decode cX4_within 0 = .ok (.lload_n 0, 1) := by decide +kernel
theorem dX4_within_1 : decode cX4_within 1 = .ok (.lconst 0, 1) := by decide +kernel
theorem dX4_within_2 : decode cX4_within 2 = .ok (.lcmp, 1) := by decide +kernel
theorem dX4_within_3 : decode cX4_within 3 = .ok (.ifCond .lt 13, 3) := by decide +kernel
theorem dX4_within_6 : decode cX4_within 6 = .ok (.lload_n 0, 1) := by decide +kernel
theorem dX4_within_7 : decode cX4_within 7 = .ok (.lload_n 2, 1) := by decide +kernel
theorem dX4_within_8 : decode cX4_within 8 = .ok (.lcmp, 1) := by decide +kernel
theorem dX4_within_9 : decode cX4_within 9 = .ok (.ifCond .gt 7, 3) := by decide +kernel
theorem dX4_within_12 : decode cX4_within 12 = .ok (.iconst 1, 1) := by decide +kernel
theorem dX4_within_13 : decode cX4_within 13 = .ok (.goto 4, 3) := by decide +kernel
theorem dX4_within_16 : decode cX4_within 16 = .ok (.iconst 0, 1) := by decide +kernel
theorem dX4_within_17 : decode cX4_within 17 = .ok (.ireturn, 1) := by decide +kernel
theorem dX4_isShare_0 : decode cX4_isShare 0 = .ok (.lload_n 0, 1) := by decide +kernel
theorem dX4_isShare_1 : decode cX4_isShare 1 = .ok (.lconst 0, 1) := by decide +kernel
theorem dX4_isShare_2 : decode cX4_isShare 2 = .ok (.lcmp, 1) := by decide +kernel
theorem dX4_isShare_3 : decode cX4_isShare 3 = .ok (.ifCond .lt 27, 3) := by decide +kernel
theorem dX4_isShare_6 : decode cX4_isShare 6 = .ok (.lload_n 0, 1) := by decide +kernel
theorem dX4_isShare_7 : decode cX4_isShare 7 = .ok (.lload_n 2, 1) := by decide +kernel
theorem dX4_isShare_8 : decode cX4_isShare 8 = .ok (.lcmp, 1) := by decide +kernel
theorem dX4_isShare_9 : decode cX4_isShare 9 = .ok (.ifCond .gt 21, 3) := by decide +kernel
theorem dX4_isShare_12 : decode cX4_isShare 12 = .ok (.lload_n 2, 1) := by decide +kernel
theorem dX4_isShare_13 : decode cX4_isShare 13 = .ok (.lconst 1, 1) := by decide +kernel
theorem dX4_isShare_14 : decode cX4_isShare 14 = .ok (.lcmp, 1) := by decide +kernel
theorem dX4_isShare_15 : decode cX4_isShare 15 = .ok (.ifCond .lt 15, 3) := by decide +kernel
theorem dX4_isShare_18 : decode cX4_isShare 18 = .ok (.lload_n 2, 1) := by decide +kernel
theorem dX4_isShare_19 : decode cX4_isShare 19 = .ok (.ldc2_w 223, 3) := by decide +kernel
theorem dX4_isShare_22 : decode cX4_isShare 22 = .ok (.lcmp, 1) := by decide +kernel
theorem dX4_isShare_23 : decode cX4_isShare 23 = .ok (.ifCond .gt 7, 3) := by decide +kernel
theorem dX4_isShare_26 : decode cX4_isShare 26 = .ok (.iconst 1, 1) := by decide +kernel
theorem dX4_isShare_27 : decode cX4_isShare 27 = .ok (.goto 4, 3) := by decide +kernel
theorem dX4_isShare_30 : decode cX4_isShare 30 = .ok (.iconst 0, 1) := by decide +kernel
theorem dX4_isShare_31 : decode cX4_isShare 31 = .ok (.ireturn, 1) := by decide +kernel
theorem dX4_isKind_0 : decode cX4_isKind 0 = .ok (.iload_n 0, 1) := by decide +kernel
theorem dX4_isKind_1 : decode cX4_isKind 1 = .ok (.ifCond .lt 13, 3) := by decide +kernel
theorem dX4_isKind_4 : decode cX4_isKind 4 = .ok (.iload_n 0, 1) := by decide +kernel
theorem dX4_isKind_5 : decode cX4_isKind 5 = .ok (.bipush 8, 2) := by decide +kernel
theorem dX4_isKind_7 : decode cX4_isKind 7 = .ok (.if_icmp .ge 7, 3) := by decide +kernel
theorem dX4_isKind_10 : decode cX4_isKind 10 = .ok (.iconst 1, 1) := by decide +kernel
theorem dX4_isKind_11 : decode cX4_isKind 11 = .ok (.goto 4, 3) := by decide +kernel
theorem dX4_isKind_14 : decode cX4_isKind 14 = .ok (.iconst 0, 1) := by decide +kernel
theorem dX4_isKind_15 : decode cX4_isKind 15 = .ok (.ireturn, 1) := by decide +kernel
theorem dX4_isPort_0 : decode cX4_isPort 0 = .ok (.iload_n 0, 1) := by decide +kernel
theorem dX4_isPort_1 : decode cX4_isPort 1 = .ok (.ifCond .lt 12, 3) := by decide +kernel
theorem dX4_isPort_4 : decode cX4_isPort 4 = .ok (.iload_n 0, 1) := by decide +kernel
theorem dX4_isPort_5 : decode cX4_isPort 5 = .ok (.iconst 4, 1) := by decide +kernel
theorem dX4_isPort_6 : decode cX4_isPort 6 = .ok (.if_icmp .ge 7, 3) := by decide +kernel
theorem dX4_isPort_9 : decode cX4_isPort 9 = .ok (.iconst 1, 1) := by decide +kernel
theorem dX4_isPort_10 : decode cX4_isPort 10 = .ok (.goto 4, 3) := by decide +kernel
theorem dX4_isPort_13 : decode cX4_isPort 13 = .ok (.iconst 0, 1) := by decide +kernel
theorem dX4_isPort_14 : decode cX4_isPort 14 = .ok (.ireturn, 1) := by decide +kernel
theorem dX4_hasBit_0 : decode cX4_hasBit 0 = .ok (.iload_n 0, 1) := by decide +kernel
theorem dX4_hasBit_1 : decode cX4_hasBit 1 = .ok (.iload_n 1, 1) := by decide +kernel
theorem dX4_hasBit_2 : decode cX4_hasBit 2 = .ok (.iushr, 1) := by decide +kernel
theorem dX4_hasBit_3 : decode cX4_hasBit 3 = .ok (.iconst 1, 1) := by decide +kernel
theorem dX4_hasBit_4 : decode cX4_hasBit 4 = .ok (.iand, 1) := by decide +kernel
theorem dX4_hasBit_5 : decode cX4_hasBit 5 = .ok (.ifCond .eq 7, 3) := by decide +kernel
theorem dX4_hasBit_8 : decode cX4_hasBit 8 = .ok (.iconst 1, 1) := by decide +kernel
theorem dX4_hasBit_9 : decode cX4_hasBit 9 = .ok (.goto 4, 3) := by decide +kernel
theorem dX4_hasBit_12 : decode cX4_hasBit 12 = .ok (.iconst 0, 1) := by decide +kernel
theorem dX4_hasBit_13 : decode cX4_hasBit 13 = .ok (.ireturn, 1) := by decide +kernel
theorem dX4_placeOfBit_0 : decode cX4_placeOfBit 0 = .ok (.iconst 0, 1) := by decide +kernel
theorem dX4_placeOfBit_1 : decode cX4_placeOfBit 1 = .ok (.istore_n 2, 1) := by decide +kernel
theorem dX4_placeOfBit_2 : decode cX4_placeOfBit 2 = .ok (.iconst 0, 1) := by decide +kernel
theorem dX4_placeOfBit_3 : decode cX4_placeOfBit 3 = .ok (.istore_n 3, 1) := by decide +kernel
theorem dX4_placeOfBit_4 : decode cX4_placeOfBit 4 = .ok (.iload_n 3, 1) := by decide +kernel
theorem dX4_placeOfBit_5 : decode cX4_placeOfBit 5 = .ok (.bipush 24, 2) := by decide +kernel
theorem dX4_placeOfBit_7 : decode cX4_placeOfBit 7 = .ok (.if_icmp .ge 27, 3) := by decide +kernel
theorem dX4_placeOfBit_10 : decode cX4_placeOfBit 10 = .ok (.iload_n 0, 1) := by decide +kernel
theorem dX4_placeOfBit_11 : decode cX4_placeOfBit 11 = .ok (.iload_n 3, 1) := by decide +kernel
theorem dX4_placeOfBit_12 : decode cX4_placeOfBit 12 = .ok (.invokestatic 120, 3) := by decide +kernel
theorem dX4_placeOfBit_15 : decode cX4_placeOfBit 15 = .ok (.ifCond .eq 13, 3) := by decide +kernel
theorem dX4_placeOfBit_18 : decode cX4_placeOfBit 18 = .ok (.iload_n 2, 1) := by decide +kernel
theorem dX4_placeOfBit_19 : decode cX4_placeOfBit 19 = .ok (.iload_n 1, 1) := by decide +kernel
theorem dX4_placeOfBit_20 : decode cX4_placeOfBit 20 = .ok (.if_icmp .ne 5, 3) := by decide +kernel
theorem dX4_placeOfBit_23 : decode cX4_placeOfBit 23 = .ok (.iload_n 3, 1) := by decide +kernel
theorem dX4_placeOfBit_24 : decode cX4_placeOfBit 24 = .ok (.ireturn, 1) := by decide +kernel
theorem dX4_placeOfBit_25 : decode cX4_placeOfBit 25 = .ok (.iinc 2 1, 3) := by decide +kernel
theorem dX4_placeOfBit_28 : decode cX4_placeOfBit 28 = .ok (.iinc 3 1, 3) := by decide +kernel
theorem dX4_placeOfBit_31 : decode cX4_placeOfBit 31 = .ok (.goto (-27), 3) := by decide +kernel
theorem dX4_placeOfBit_34 : decode cX4_placeOfBit 34 = .ok (.iconst (-1), 1) := by decide +kernel
theorem dX4_placeOfBit_35 : decode cX4_placeOfBit 35 = .ok (.ireturn, 1) := by decide +kernel
theorem dX4_partOf_0 : decode cX4_partOf 0 = .ok (.iload 4, 2) := by decide +kernel
theorem dX4_partOf_2 : decode cX4_partOf 2 = .ok (.ifCond .eq 13, 3) := by decide +kernel
theorem dX4_partOf_5 : decode cX4_partOf 5 = .ok (.iload 4, 2) := by decide +kernel
theorem dX4_partOf_7 : decode cX4_partOf 7 = .ok (.iconst 1, 1) := by decide +kernel
theorem dX4_partOf_8 : decode cX4_partOf 8 = .ok (.if_icmp .eq 7, 3) := by decide +kernel
theorem dX4_partOf_11 : decode cX4_partOf 11 = .ok (.ldc2_w 54, 3) := by decide +kernel
theorem dX4_partOf_14 : decode cX4_partOf 14 = .ok (.lreturn, 1) := by decide +kernel
theorem dX4_partOf_15 : decode cX4_partOf 15 = .ok (.lload_n 0, 1) := by decide +kernel
theorem dX4_partOf_16 : decode cX4_partOf 16 = .ok (.lconst 0, 1) := by decide +kernel
theorem dX4_partOf_17 : decode cX4_partOf 17 = .ok (.lcmp, 1) := by decide +kernel
theorem dX4_partOf_18 : decode cX4_partOf 18 = .ok (.ifCond .eq 9, 3) := by decide +kernel
theorem dX4_partOf_21 : decode cX4_partOf 21 = .ok (.lload_n 2, 1) := by decide +kernel
theorem dX4_partOf_22 : decode cX4_partOf 22 = .ok (.lconst 0, 1) := by decide +kernel
theorem dX4_partOf_23 : decode cX4_partOf 23 = .ok (.lcmp, 1) := by decide +kernel
theorem dX4_partOf_24 : decode cX4_partOf 24 = .ok (.ifCond .ne 7, 3) := by decide +kernel
theorem dX4_partOf_27 : decode cX4_partOf 27 = .ok (.iload 4, 2) := by decide +kernel
theorem dX4_partOf_29 : decode cX4_partOf 29 = .ok (.i2l, 1) := by decide +kernel
theorem dX4_partOf_30 : decode cX4_partOf 30 = .ok (.lreturn, 1) := by decide +kernel
theorem dX4_partOf_31 : decode cX4_partOf 31 = .ok (.lload_n 0, 1) := by decide +kernel
theorem dX4_partOf_32 : decode cX4_partOf 32 = .ok (.lload_n 2, 1) := by decide +kernel
theorem dX4_partOf_33 : decode cX4_partOf 33 = .ok (.invokestatic 225, 3) := by decide +kernel
theorem dX4_partOf_36 : decode cX4_partOf 36 = .ok (.lstore 5, 2) := by decide +kernel
theorem dX4_partOf_38 : decode cX4_partOf 38 = .ok (.iload 4, 2) := by decide +kernel
theorem dX4_partOf_40 : decode cX4_partOf 40 = .ok (.ifCond .ne 7, 3) := by decide +kernel
theorem dX4_partOf_43 : decode cX4_partOf 43 = .ok (.lload_n 0, 1) := by decide +kernel
theorem dX4_partOf_44 : decode cX4_partOf 44 = .ok (.goto 4, 3) := by decide +kernel
theorem dX4_partOf_47 : decode cX4_partOf 47 = .ok (.lload_n 2, 1) := by decide +kernel
theorem dX4_partOf_48 : decode cX4_partOf 48 = .ok (.lload 5, 2) := by decide +kernel
theorem dX4_partOf_50 : decode cX4_partOf 50 = .ok (.ldiv, 1) := by decide +kernel
theorem dX4_partOf_51 : decode cX4_partOf 51 = .ok (.lreturn, 1) := by decide +kernel
theorem dX4_commonDivisor_0 : decode cX4_commonDivisor 0 = .ok (.lload_n 0, 1) := by decide +kernel
theorem dX4_commonDivisor_1 : decode cX4_commonDivisor 1 = .ok (.lstore 4, 2) := by decide +kernel
theorem dX4_commonDivisor_3 : decode cX4_commonDivisor 3 = .ok (.lload_n 2, 1) := by decide +kernel
theorem dX4_commonDivisor_4 : decode cX4_commonDivisor 4 = .ok (.lstore 6, 2) := by decide +kernel
theorem dX4_commonDivisor_6 : decode cX4_commonDivisor 6 = .ok (.iconst 0, 1) := by decide +kernel
theorem dX4_commonDivisor_7 : decode cX4_commonDivisor 7 = .ok (.istore 8, 2) := by decide +kernel
theorem dX4_commonDivisor_9 : decode cX4_commonDivisor 9 = .ok (.iload 8, 2) := by decide +kernel
theorem dX4_commonDivisor_11 : decode cX4_commonDivisor 11 = .ok (.bipush 100, 2) := by decide +kernel
theorem dX4_commonDivisor_13 : decode cX4_commonDivisor 13 = .ok (.if_icmp .ge 31, 3) := by decide +kernel
theorem dX4_commonDivisor_16 : decode cX4_commonDivisor 16 = .ok (.lload 6, 2) := by decide +kernel
theorem dX4_commonDivisor_18 : decode cX4_commonDivisor 18 = .ok (.lconst 0, 1) := by decide +kernel
theorem dX4_commonDivisor_19 : decode cX4_commonDivisor 19 = .ok (.lcmp, 1) := by decide +kernel
theorem dX4_commonDivisor_20 : decode cX4_commonDivisor 20 = .ok (.ifCond .eq 24, 3) := by decide +kernel
theorem dX4_commonDivisor_23 : decode cX4_commonDivisor 23 = .ok (.lload 4, 2) := by decide +kernel
theorem dX4_commonDivisor_25 : decode cX4_commonDivisor 25 = .ok (.lload 6, 2) := by decide +kernel
theorem dX4_commonDivisor_27 : decode cX4_commonDivisor 27 = .ok (.lrem, 1) := by decide +kernel
theorem dX4_commonDivisor_28 : decode cX4_commonDivisor 28 = .ok (.lstore 9, 2) := by decide +kernel
theorem dX4_commonDivisor_30 : decode cX4_commonDivisor 30 = .ok (.lload 6, 2) := by decide +kernel
theorem dX4_commonDivisor_32 : decode cX4_commonDivisor 32 = .ok (.lstore 4, 2) := by decide +kernel
theorem dX4_commonDivisor_34 : decode cX4_commonDivisor 34 = .ok (.lload 9, 2) := by decide +kernel
theorem dX4_commonDivisor_36 : decode cX4_commonDivisor 36 = .ok (.lstore 6, 2) := by decide +kernel
theorem dX4_commonDivisor_38 : decode cX4_commonDivisor 38 = .ok (.iinc 8 1, 3) := by decide +kernel
theorem dX4_commonDivisor_41 : decode cX4_commonDivisor 41 = .ok (.goto (-32), 3) := by decide +kernel
theorem dX4_commonDivisor_44 : decode cX4_commonDivisor 44 = .ok (.lload 4, 2) := by decide +kernel
theorem dX4_commonDivisor_46 : decode cX4_commonDivisor 46 = .ok (.lconst 0, 1) := by decide +kernel
theorem dX4_commonDivisor_47 : decode cX4_commonDivisor 47 = .ok (.lcmp, 1) := by decide +kernel
theorem dX4_commonDivisor_48 : decode cX4_commonDivisor 48 = .ok (.ifCond .ne 7, 3) := by decide +kernel
theorem dX4_commonDivisor_51 : decode cX4_commonDivisor 51 = .ok (.lconst 1, 1) := by decide +kernel
theorem dX4_commonDivisor_52 : decode cX4_commonDivisor 52 = .ok (.goto 5, 3) := by decide +kernel
theorem dX4_commonDivisor_55 : decode cX4_commonDivisor 55 = .ok (.lload 4, 2) := by decide +kernel
theorem dX4_commonDivisor_57 : decode cX4_commonDivisor 57 = .ok (.lreturn, 1) := by decide +kernel
theorem dX4_findClashes_0 : decode cX4_findClashes 0 = .ok (.aload_n 0, 1) := by decide +kernel
theorem dX4_findClashes_1 : decode cX4_findClashes 1 = .ok (.getfield 21, 3) := by decide +kernel
theorem dX4_findClashes_4 : decode cX4_findClashes 4 = .ok (.aload_n 0, 1) := by decide +kernel
theorem dX4_findClashes_5 : decode cX4_findClashes 5 = .ok (.getfield 10, 3) := by decide +kernel
theorem dX4_findClashes_8 : decode cX4_findClashes 8 = .ok (.invokevirtual 229, 3) := by decide +kernel
theorem dX4_findClashes_11 : decode cX4_findClashes 11 = .ok (.invokevirtual 160, 3) := by decide +kernel
theorem dX4_findClashes_14 : decode cX4_findClashes 14 = .ok (.iconst 0, 1) := by decide +kernel
theorem dX4_findClashes_15 : decode cX4_findClashes 15 = .ok (.istore_n 1, 1) := by decide +kernel
theorem dX4_findClashes_16 : decode cX4_findClashes 16 = .ok (.iconst 0, 1) := by decide +kernel
theorem dX4_findClashes_17 : decode cX4_findClashes 17 = .ok (.istore_n 2, 1) := by decide +kernel
theorem dX4_findClashes_18 : decode cX4_findClashes 18 = .ok (.iload_n 2, 1) := by decide +kernel
theorem dX4_findClashes_19 : decode cX4_findClashes 19 = .ok (.bipush 8, 2) := by decide +kernel
theorem dX4_findClashes_21 : decode cX4_findClashes 21 = .ok (.if_icmp .ge 26, 3) := by decide +kernel
theorem dX4_findClashes_24 : decode cX4_findClashes 24 = .ok (.aload_n 0, 1) := by decide +kernel
theorem dX4_findClashes_25 : decode cX4_findClashes 25 = .ok (.getfield 21, 3) := by decide +kernel
theorem dX4_findClashes_28 : decode cX4_findClashes 28 = .ok (.iload_n 2, 1) := by decide +kernel
theorem dX4_findClashes_29 : decode cX4_findClashes 29 = .ok (.invokevirtual 232, 3) := by decide +kernel
theorem dX4_findClashes_32 : decode cX4_findClashes 32 = .ok (.ifCond .ne 9, 3) := by decide +kernel
theorem dX4_findClashes_35 : decode cX4_findClashes 35 = .ok (.iload_n 1, 1) := by decide +kernel
theorem dX4_findClashes_36 : decode cX4_findClashes 36 = .ok (.iconst 1, 1) := by decide +kernel
theorem dX4_findClashes_37 : decode cX4_findClashes 37 = .ok (.iload_n 2, 1) := by decide +kernel
theorem dX4_findClashes_38 : decode cX4_findClashes 38 = .ok (.ishl, 1) := by decide +kernel
theorem dX4_findClashes_39 : decode cX4_findClashes 39 = .ok (.ior, 1) := by decide +kernel
theorem dX4_findClashes_40 : decode cX4_findClashes 40 = .ok (.istore_n 1, 1) := by decide +kernel
theorem dX4_findClashes_41 : decode cX4_findClashes 41 = .ok (.iinc 2 1, 3) := by decide +kernel
theorem dX4_findClashes_44 : decode cX4_findClashes 44 = .ok (.goto (-26), 3) := by decide +kernel
theorem dX4_findClashes_47 : decode cX4_findClashes 47 = .ok (.iload_n 1, 1) := by decide +kernel
theorem dX4_findClashes_48 : decode cX4_findClashes 48 = .ok (.ireturn, 1) := by decide +kernel
theorem dX4_search_0 : decode cX4_search 0 = .ok (.aload_n 0, 1) := by decide +kernel
theorem dX4_search_1 : decode cX4_search 1 = .ok (.invokevirtual 235, 3) := by decide +kernel
theorem dX4_search_4 : decode cX4_search 4 = .ok (.istore_n 1, 1) := by decide +kernel
theorem dX4_search_5 : decode cX4_search 5 = .ok (.iconst 1, 1) := by decide +kernel
theorem dX4_search_6 : decode cX4_search 6 = .ok (.iload_n 1, 1) := by decide +kernel
theorem dX4_search_7 : decode cX4_search 7 = .ok (.ishl, 1) := by decide +kernel
theorem dX4_search_8 : decode cX4_search 8 = .ok (.istore_n 2, 1) := by decide +kernel
theorem dX4_search_9 : decode cX4_search 9 = .ok (.aload_n 0, 1) := by decide +kernel
theorem dX4_search_10 : decode cX4_search 10 = .ok (.getfield 21, 3) := by decide +kernel
theorem dX4_search_13 : decode cX4_search 13 = .ok (.aload_n 0, 1) := by decide +kernel
theorem dX4_search_14 : decode cX4_search 14 = .ok (.getfield 10, 3) := by decide +kernel
theorem dX4_search_17 : decode cX4_search 17 = .ok (.getfield 109, 3) := by decide +kernel
theorem dX4_search_20 : decode cX4_search 20 = .ok (.invokevirtual 160, 3) := by decide +kernel
theorem dX4_search_23 : decode cX4_search 23 = .ok (.aload_n 0, 1) := by decide +kernel
theorem dX4_search_24 : decode cX4_search 24 = .ok (.invokevirtual 238, 3) := by decide +kernel
theorem dX4_search_27 : decode cX4_search 27 = .ok (.iconst 1, 1) := by decide +kernel
theorem dX4_search_28 : decode cX4_search 28 = .ok (.istore_n 3, 1) := by decide +kernel
theorem dX4_search_29 : decode cX4_search 29 = .ok (.iload_n 3, 1) := by decide +kernel
theorem dX4_search_30 : decode cX4_search 30 = .ok (.iload_n 2, 1) := by decide +kernel
theorem dX4_search_31 : decode cX4_search 31 = .ok (.if_icmp .ge 44, 3) := by decide +kernel
theorem dX4_search_34 : decode cX4_search 34 = .ok (.iload_n 3, 1) := by decide +kernel
theorem dX4_search_35 : decode cX4_search 35 = .ok (.iload_n 3, 1) := by decide +kernel
theorem dX4_search_36 : decode cX4_search 36 = .ok (.ineg, 1) := by decide +kernel
theorem dX4_search_37 : decode cX4_search 37 = .ok (.iand, 1) := by decide +kernel
theorem dX4_search_38 : decode cX4_search 38 = .ok (.iconst 1, 1) := by decide +kernel
theorem dX4_search_39 : decode cX4_search 39 = .ok (.isub, 1) := by decide +kernel
theorem dX4_search_40 : decode cX4_search 40 = .ok (.invokestatic 142, 3) := by decide +kernel
theorem dX4_search_43 : decode cX4_search 43 = .ok (.istore 4, 2) := by decide +kernel
theorem dX4_search_45 : decode cX4_search 45 = .ok (.iload 4, 2) := by decide +kernel
theorem dX4_search_47 : decode cX4_search 47 = .ok (.iload_n 1, 1) := by decide +kernel
theorem dX4_search_48 : decode cX4_search 48 = .ok (.if_icmp .ge 21, 3) := by decide +kernel
theorem dX4_search_51 : decode cX4_search 51 = .ok (.aload_n 0, 1) := by decide +kernel
theorem dX4_search_52 : decode cX4_search 52 = .ok (.getfield 21, 3) := by decide +kernel
theorem dX4_search_55 : decode cX4_search 55 = .ok (.aload_n 0, 1) := by decide +kernel
theorem dX4_search_56 : decode cX4_search 56 = .ok (.getfield 46, 3) := by decide +kernel
theorem dX4_search_59 : decode cX4_search 59 = .ok (.iload 4, 2) := by decide +kernel
theorem dX4_search_61 : decode cX4_search 61 = .ok (.iaload, 1) := by decide +kernel
theorem dX4_search_62 : decode cX4_search 62 = .ok (.invokevirtual 241, 3) := by decide +kernel
theorem dX4_search_65 : decode cX4_search 65 = .ok (.aload_n 0, 1) := by decide +kernel
theorem dX4_search_66 : decode cX4_search 66 = .ok (.invokevirtual 238, 3) := by decide +kernel
theorem dX4_search_69 : decode cX4_search 69 = .ok (.iinc 3 1, 3) := by decide +kernel
theorem dX4_search_72 : decode cX4_search 72 = .ok (.goto (-43), 3) := by decide +kernel
theorem dX4_search_75 : decode cX4_search 75 = .ok (.return_, 1) := by decide +kernel
theorem dX4_considerTally_0 : decode cX4_considerTally 0 = .ok (.aload_n 0, 1) := by decide +kernel
theorem dX4_considerTally_1 : decode cX4_considerTally 1 = .ok (.getfield 21, 3) := by decide +kernel
theorem dX4_considerTally_4 : decode cX4_considerTally 4 = .ok (.invokevirtual 181, 3) := by decide +kernel
theorem dX4_considerTally_7 : decode cX4_considerTally 7 = .ok (.lstore_n 1, 1) := by decide +kernel
theorem dX4_considerTally_8 : decode cX4_considerTally 8 = .ok (.aload_n 0, 1) := by decide +kernel
theorem dX4_considerTally_9 : decode cX4_considerTally 9 = .ok (.getfield 42, 3) := by decide +kernel
theorem dX4_considerTally_12 : decode cX4_considerTally 12 = .ok (.aload_n 0, 1) := by decide +kernel
theorem dX4_considerTally_13 : decode cX4_considerTally 13 = .ok (.getfield 21, 3) := by decide +kernel
theorem dX4_considerTally_16 : decode cX4_considerTally 16 = .ok (.getfield 180, 3) := by decide +kernel
theorem dX4_considerTally_19 : decode cX4_considerTally 19 = .ok (.lload_n 1, 1) := by decide +kernel
theorem dX4_considerTally_20 : decode cX4_considerTally 20 = .ok (.invokevirtual 244, 3) := by decide +kernel
theorem dX4_considerTally_23 : decode cX4_considerTally 23 = .ok (.ifCond .eq 28, 3) := by decide +kernel
theorem dX4_considerTally_26 : decode cX4_considerTally 26 = .ok (.aload_n 0, 1) := by decide +kernel
theorem dX4_considerTally_27 : decode cX4_considerTally 27 = .ok (.getfield 21, 3) := by decide +kernel
theorem dX4_considerTally_30 : decode cX4_considerTally 30 = .ok (.invokevirtual 248, 3) := by decide +kernel
theorem dX4_considerTally_33 : decode cX4_considerTally 33 = .ok (.ifCond .eq 18, 3) := by decide +kernel
theorem dX4_considerTally_36 : decode cX4_considerTally 36 = .ok (.aload_n 0, 1) := by decide +kernel
theorem dX4_considerTally_37 : decode cX4_considerTally 37 = .ok (.getfield 42, 3) := by decide +kernel
theorem dX4_considerTally_40 : decode cX4_considerTally 40 = .ok (.aload_n 0, 1) := by decide +kernel
theorem dX4_considerTally_41 : decode cX4_considerTally 41 = .ok (.getfield 21, 3) := by decide +kernel
theorem dX4_considerTally_44 : decode cX4_considerTally 44 = .ok (.getfield 180, 3) := by decide +kernel
theorem dX4_considerTally_47 : decode cX4_considerTally 47 = .ok (.lload_n 1, 1) := by decide +kernel
theorem dX4_considerTally_48 : decode cX4_considerTally 48 = .ok (.invokevirtual 184, 3) := by decide +kernel
theorem dX4_considerTally_51 : decode cX4_considerTally 51 = .ok (.return_, 1) := by decide +kernel
theorem dX4_listFreeCells_0 : decode cX4_listFreeCells 0 = .ok (.aload_n 0, 1) := by decide +kernel
theorem dX4_listFreeCells_1 : decode cX4_listFreeCells 1 = .ok (.getfield 10, 3) := by decide +kernel
theorem dX4_listFreeCells_4 : decode cX4_listFreeCells 4 = .ok (.invokevirtual 139, 3) := by decide +kernel
theorem dX4_listFreeCells_7 : decode cX4_listFreeCells 7 = .ok (.istore_n 1, 1) := by decide +kernel
theorem dX4_listFreeCells_8 : decode cX4_listFreeCells 8 = .ok (.iconst 0, 1) := by decide +kernel
theorem dX4_listFreeCells_9 : decode cX4_listFreeCells 9 = .ok (.istore_n 2, 1) := by decide +kernel
theorem dX4_listFreeCells_10 : decode cX4_listFreeCells 10 = .ok (.iconst 0, 1) := by decide +kernel
theorem dX4_listFreeCells_11 : decode cX4_listFreeCells 11 = .ok (.istore_n 3, 1) := by decide +kernel
theorem dX4_listFreeCells_12 : decode cX4_listFreeCells 12 = .ok (.iload_n 3, 1) := by decide +kernel
theorem dX4_listFreeCells_13 : decode cX4_listFreeCells 13 = .ok (.aload_n 0, 1) := by decide +kernel
theorem dX4_listFreeCells_14 : decode cX4_listFreeCells 14 = .ok (.getfield 10, 3) := by decide +kernel
theorem dX4_listFreeCells_17 : decode cX4_listFreeCells 17 = .ok (.getfield 60, 3) := by decide +kernel
theorem dX4_listFreeCells_20 : decode cX4_listFreeCells 20 = .ok (.if_icmp .ge 27, 3) := by decide +kernel
theorem dX4_listFreeCells_23 : decode cX4_listFreeCells 23 = .ok (.iload_n 1, 1) := by decide +kernel
theorem dX4_listFreeCells_24 : decode cX4_listFreeCells 24 = .ok (.iload_n 3, 1) := by decide +kernel
theorem dX4_listFreeCells_25 : decode cX4_listFreeCells 25 = .ok (.invokestatic 120, 3) := by decide +kernel
theorem dX4_listFreeCells_28 : decode cX4_listFreeCells 28 = .ok (.ifCond .eq 13, 3) := by decide +kernel
theorem dX4_listFreeCells_31 : decode cX4_listFreeCells 31 = .ok (.aload_n 0, 1) := by decide +kernel
theorem dX4_listFreeCells_32 : decode cX4_listFreeCells 32 = .ok (.getfield 46, 3) := by decide +kernel
theorem dX4_listFreeCells_35 : decode cX4_listFreeCells 35 = .ok (.iload_n 2, 1) := by decide +kernel
theorem dX4_listFreeCells_36 : decode cX4_listFreeCells 36 = .ok (.iload_n 3, 1) := by decide +kernel
theorem dX4_listFreeCells_37 : decode cX4_listFreeCells 37 = .ok (.iastore, 1) := by decide +kernel
theorem dX4_listFreeCells_38 : decode cX4_listFreeCells 38 = .ok (.iinc 2 1, 3) := by decide +kernel
theorem dX4_listFreeCells_41 : decode cX4_listFreeCells 41 = .ok (.iinc 3 1, 3) := by decide +kernel
theorem dX4_listFreeCells_44 : decode cX4_listFreeCells 44 = .ok (.goto (-32), 3) := by decide +kernel
theorem dX4_listFreeCells_47 : decode cX4_listFreeCells 47 = .ok (.iload_n 2, 1) := by decide +kernel
theorem dX4_listFreeCells_48 : decode cX4_listFreeCells 48 = .ok (.ireturn, 1) := by decide +kernel
theorem dX4_drawnMoves_0 : decode cX4_drawnMoves 0 = .ok (.aload_n 0, 1) := by decide +kernel
theorem dX4_drawnMoves_1 : decode cX4_drawnMoves 1 = .ok (.getfield 21, 3) := by decide +kernel
theorem dX4_drawnMoves_4 : decode cX4_drawnMoves 4 = .ok (.aload_n 0, 1) := by decide +kernel
theorem dX4_drawnMoves_5 : decode cX4_drawnMoves 5 = .ok (.getfield 10, 3) := by decide +kernel
theorem dX4_drawnMoves_8 : decode cX4_drawnMoves 8 = .ok (.invokevirtual 229, 3) := by decide +kernel
theorem dX4_drawnMoves_11 : decode cX4_drawnMoves 11 = .ok (.invokevirtual 160, 3) := by decide +kernel
theorem dX4_drawnMoves_14 : decode cX4_drawnMoves 14 = .ok (.aload_n 0, 1) := by decide +kernel
theorem dX4_drawnMoves_15 : decode cX4_drawnMoves 15 = .ok (.getfield 10, 3) := by decide +kernel
theorem dX4_drawnMoves_18 : decode cX4_drawnMoves 18 = .ok (.getfield 60, 3) := by decide +kernel
theorem dX4_drawnMoves_21 : decode cX4_drawnMoves 21 = .ok (.ifCond .eq 13, 3) := by decide +kernel
theorem dX4_drawnMoves_24 : decode cX4_drawnMoves 24 = .ok (.aload_n 0, 1) := by decide +kernel
theorem dX4_drawnMoves_25 : decode cX4_drawnMoves 25 = .ok (.getfield 21, 3) := by decide +kernel
theorem dX4_drawnMoves_28 : decode cX4_drawnMoves 28 = .ok (.invokevirtual 248, 3) := by decide +kernel
theorem dX4_drawnMoves_31 : decode cX4_drawnMoves 31 = .ok (.ifCond .ne 5, 3) := by decide +kernel
theorem dX4_drawnMoves_34 : decode cX4_drawnMoves 34 = .ok (.iconst (-1), 1) := by decide +kernel
theorem dX4_drawnMoves_35 : decode cX4_drawnMoves 35 = .ok (.ireturn, 1) := by decide +kernel
theorem dX4_drawnMoves_36 : decode cX4_drawnMoves 36 = .ok (.iconst 0, 1) := by decide +kernel
theorem dX4_drawnMoves_37 : decode cX4_drawnMoves 37 = .ok (.istore_n 3, 1) := by decide +kernel
theorem dX4_drawnMoves_38 : decode cX4_drawnMoves 38 = .ok (.aload_n 0, 1) := by decide +kernel
theorem dX4_drawnMoves_39 : decode cX4_drawnMoves 39 = .ok (.getfield 21, 3) := by decide +kernel
theorem dX4_drawnMoves_42 : decode cX4_drawnMoves 42 = .ok (.invokevirtual 181, 3) := by decide +kernel
theorem dX4_drawnMoves_45 : decode cX4_drawnMoves 45 = .ok (.lstore 4, 2) := by decide +kernel
theorem dX4_drawnMoves_47 : decode cX4_drawnMoves 47 = .ok (.iconst 0, 1) := by decide +kernel
theorem dX4_drawnMoves_48 : decode cX4_drawnMoves 48 = .ok (.istore 6, 2) := by decide +kernel
theorem dX4_drawnMoves_50 : decode cX4_drawnMoves 50 = .ok (.iload 6, 2) := by decide +kernel
theorem dX4_drawnMoves_52 : decode cX4_drawnMoves 52 = .ok (.iload_n 2, 1) := by decide +kernel
theorem dX4_drawnMoves_53 : decode cX4_drawnMoves 53 = .ok (.if_icmp .ge 81, 3) := by decide +kernel
theorem dX4_drawnMoves_56 : decode cX4_drawnMoves 56 = .ok (.aload_n 1, 1) := by decide +kernel
theorem dX4_drawnMoves_57 : decode cX4_drawnMoves 57 = .ok (.invokevirtual 252, 3) := by decide +kernel
theorem dX4_drawnMoves_60 : decode cX4_drawnMoves 60 = .ok (.aload_n 0, 1) := by decide +kernel
theorem dX4_drawnMoves_61 : decode cX4_drawnMoves 61 = .ok (.getfield 10, 3) := by decide +kernel
theorem dX4_drawnMoves_64 : decode cX4_drawnMoves 64 = .ok (.getfield 60, 3) := by decide +kernel
theorem dX4_drawnMoves_67 : decode cX4_drawnMoves 67 = .ok (.i2l, 1) := by decide +kernel
theorem dX4_drawnMoves_68 : decode cX4_drawnMoves 68 = .ok (.lrem, 1) := by decide +kernel
theorem dX4_drawnMoves_69 : decode cX4_drawnMoves 69 = .ok (.l2i, 1) := by decide +kernel
theorem dX4_drawnMoves_70 : decode cX4_drawnMoves 70 = .ok (.istore 7, 2) := by decide +kernel
theorem dX4_drawnMoves_72 : decode cX4_drawnMoves 72 = .ok (.aload_n 0, 1) := by decide +kernel
theorem dX4_drawnMoves_73 : decode cX4_drawnMoves 73 = .ok (.getfield 21, 3) := by decide +kernel
theorem dX4_drawnMoves_76 : decode cX4_drawnMoves 76 = .ok (.iload 7, 2) := by decide +kernel
theorem dX4_drawnMoves_78 : decode cX4_drawnMoves 78 = .ok (.invokevirtual 241, 3) := by decide +kernel
theorem dX4_drawnMoves_81 : decode cX4_drawnMoves 81 = .ok (.aload_n 0, 1) := by decide +kernel
theorem dX4_drawnMoves_82 : decode cX4_drawnMoves 82 = .ok (.getfield 21, 3) := by decide +kernel
theorem dX4_drawnMoves_85 : decode cX4_drawnMoves 85 = .ok (.invokevirtual 181, 3) := by decide +kernel
theorem dX4_drawnMoves_88 : decode cX4_drawnMoves 88 = .ok (.lload 4, 2) := by decide +kernel
theorem dX4_drawnMoves_90 : decode cX4_drawnMoves 90 = .ok (.lcmp, 1) := by decide +kernel
theorem dX4_drawnMoves_91 : decode cX4_drawnMoves 91 = .ok (.ifCond .ge 28, 3) := by decide +kernel
theorem dX4_drawnMoves_94 : decode cX4_drawnMoves 94 = .ok (.aload_n 0, 1) := by decide +kernel
theorem dX4_drawnMoves_95 : decode cX4_drawnMoves 95 = .ok (.getfield 21, 3) := by decide +kernel
theorem dX4_drawnMoves_98 : decode cX4_drawnMoves 98 = .ok (.invokevirtual 248, 3) := by decide +kernel
theorem dX4_drawnMoves_101 : decode cX4_drawnMoves 101 = .ok (.ifCond .eq 18, 3) := by decide +kernel
theorem dX4_drawnMoves_104 : decode cX4_drawnMoves 104 = .ok (.aload_n 0, 1) := by decide +kernel
theorem dX4_drawnMoves_105 : decode cX4_drawnMoves 105 = .ok (.getfield 21, 3) := by decide +kernel
theorem dX4_drawnMoves_108 : decode cX4_drawnMoves 108 = .ok (.invokevirtual 181, 3) := by decide +kernel
theorem dX4_drawnMoves_111 : decode cX4_drawnMoves 111 = .ok (.lstore 4, 2) := by decide +kernel
theorem dX4_drawnMoves_113 : decode cX4_drawnMoves 113 = .ok (.iinc 3 1, 3) := by decide +kernel
theorem dX4_drawnMoves_116 : decode cX4_drawnMoves 116 = .ok (.goto 12, 3) := by decide +kernel
theorem dX4_drawnMoves_119 : decode cX4_drawnMoves 119 = .ok (.aload_n 0, 1) := by decide +kernel
theorem dX4_drawnMoves_120 : decode cX4_drawnMoves 120 = .ok (.getfield 21, 3) := by decide +kernel
theorem dX4_drawnMoves_123 : decode cX4_drawnMoves 123 = .ok (.iload 7, 2) := by decide +kernel
theorem dX4_drawnMoves_125 : decode cX4_drawnMoves 125 = .ok (.invokevirtual 241, 3) := by decide +kernel
theorem dX4_drawnMoves_128 : decode cX4_drawnMoves 128 = .ok (.iinc 6 1, 3) := by decide +kernel
theorem dX4_drawnMoves_131 : decode cX4_drawnMoves 131 = .ok (.goto (-81), 3) := by decide +kernel
theorem dX4_drawnMoves_134 : decode cX4_drawnMoves 134 = .ok (.iload_n 3, 1) := by decide +kernel
theorem dX4_drawnMoves_135 : decode cX4_drawnMoves 135 = .ok (.ireturn, 1) := by decide +kernel
theorem dX4_findExchangeable_0 : decode cX4_findExchangeable 0 = .ok (.aload_n 0, 1) := by decide +kernel
theorem dX4_findExchangeable_1 : decode cX4_findExchangeable 1 = .ok (.getfield 10, 3) := by decide +kernel
theorem dX4_findExchangeable_4 : decode cX4_findExchangeable 4 = .ok (.invokevirtual 139, 3) := by decide +kernel
theorem dX4_findExchangeable_7 : decode cX4_findExchangeable 7 = .ok (.istore_n 1, 1) := by decide +kernel
theorem dX4_findExchangeable_8 : decode cX4_findExchangeable 8 = .ok (.iconst 0, 1) := by decide +kernel
theorem dX4_findExchangeable_9 : decode cX4_findExchangeable 9 = .ok (.istore_n 2, 1) := by decide +kernel
theorem dX4_findExchangeable_10 : decode cX4_findExchangeable 10 = .ok (.aload_n 0, 1) := by decide +kernel
theorem dX4_findExchangeable_11 : decode cX4_findExchangeable 11 = .ok (.getfield 21, 3) := by decide +kernel
theorem dX4_findExchangeable_14 : decode cX4_findExchangeable 14 = .ok (.aload_n 0, 1) := by decide +kernel
theorem dX4_findExchangeable_15 : decode cX4_findExchangeable 15 = .ok (.getfield 42, 3) := by decide +kernel
theorem dX4_findExchangeable_18 : decode cX4_findExchangeable 18 = .ok (.getfield 119, 3) := by decide +kernel
theorem dX4_findExchangeable_21 : decode cX4_findExchangeable 21 = .ok (.invokevirtual 160, 3) := by decide +kernel
theorem dX4_findExchangeable_24 : decode cX4_findExchangeable 24 = .ok (.aload_n 0, 1) := by decide +kernel
theorem dX4_findExchangeable_25 : decode cX4_findExchangeable 25 = .ok (.getfield 21, 3) := by decide +kernel
theorem dX4_findExchangeable_28 : decode cX4_findExchangeable 28 = .ok (.invokevirtual 181, 3) := by decide +kernel
theorem dX4_findExchangeable_31 : decode cX4_findExchangeable 31 = .ok (.lstore_n 3, 1) := by decide +kernel
theorem dX4_findExchangeable_32 : decode cX4_findExchangeable 32 = .ok (.iconst 0, 1) := by decide +kernel
theorem dX4_findExchangeable_33 : decode cX4_findExchangeable 33 = .ok (.istore 5, 2) := by decide +kernel
theorem dX4_findExchangeable_35 : decode cX4_findExchangeable 35 = .ok (.iload 5, 2) := by decide +kernel
theorem dX4_findExchangeable_37 : decode cX4_findExchangeable 37 = .ok (.aload_n 0, 1) := by decide +kernel
theorem dX4_findExchangeable_38 : decode cX4_findExchangeable 38 = .ok (.getfield 10, 3) := by decide +kernel
theorem dX4_findExchangeable_41 : decode cX4_findExchangeable 41 = .ok (.getfield 60, 3) := by decide +kernel
theorem dX4_findExchangeable_44 : decode cX4_findExchangeable 44 = .ok (.if_icmp .ge 65, 3) := by decide +kernel
theorem dX4_findExchangeable_47 : decode cX4_findExchangeable 47 = .ok (.iload_n 1, 1) := by decide +kernel
theorem dX4_findExchangeable_48 : decode cX4_findExchangeable 48 = .ok (.iload 5, 2) := by decide +kernel
theorem dX4_findExchangeable_50 : decode cX4_findExchangeable 50 = .ok (.invokestatic 120, 3) := by decide +kernel
theorem dX4_findExchangeable_53 : decode cX4_findExchangeable 53 = .ok (.ifCond .eq 50, 3) := by decide +kernel
theorem dX4_findExchangeable_56 : decode cX4_findExchangeable 56 = .ok (.aload_n 0, 1) := by decide +kernel
theorem dX4_findExchangeable_57 : decode cX4_findExchangeable 57 = .ok (.getfield 21, 3) := by decide +kernel
theorem dX4_findExchangeable_60 : decode cX4_findExchangeable 60 = .ok (.iload 5, 2) := by decide +kernel
theorem dX4_findExchangeable_62 : decode cX4_findExchangeable 62 = .ok (.invokevirtual 241, 3) := by decide +kernel
theorem dX4_findExchangeable_65 : decode cX4_findExchangeable 65 = .ok (.aload_n 0, 1) := by decide +kernel
theorem dX4_findExchangeable_66 : decode cX4_findExchangeable 66 = .ok (.getfield 21, 3) := by decide +kernel
theorem dX4_findExchangeable_69 : decode cX4_findExchangeable 69 = .ok (.invokevirtual 181, 3) := by decide +kernel
theorem dX4_findExchangeable_72 : decode cX4_findExchangeable 72 = .ok (.lload_n 3, 1) := by decide +kernel
theorem dX4_findExchangeable_73 : decode cX4_findExchangeable 73 = .ok (.lcmp, 1) := by decide +kernel
theorem dX4_findExchangeable_74 : decode cX4_findExchangeable 74 = .ok (.ifCond .ne 20, 3) := by decide +kernel
theorem dX4_findExchangeable_77 : decode cX4_findExchangeable 77 = .ok (.aload_n 0, 1) := by decide +kernel
theorem dX4_findExchangeable_78 : decode cX4_findExchangeable 78 = .ok (.getfield 21, 3) := by decide +kernel
theorem dX4_findExchangeable_81 : decode cX4_findExchangeable 81 = .ok (.invokevirtual 248, 3) := by decide +kernel
theorem dX4_findExchangeable_84 : decode cX4_findExchangeable 84 = .ok (.ifCond .eq 10, 3) := by decide +kernel
theorem dX4_findExchangeable_87 : decode cX4_findExchangeable 87 = .ok (.iload_n 2, 1) := by decide +kernel
theorem dX4_findExchangeable_88 : decode cX4_findExchangeable 88 = .ok (.iconst 1, 1) := by decide +kernel
theorem dX4_findExchangeable_89 : decode cX4_findExchangeable 89 = .ok (.iload 5, 2) := by decide +kernel
theorem dX4_findExchangeable_91 : decode cX4_findExchangeable 91 = .ok (.ishl, 1) := by decide +kernel
theorem dX4_findExchangeable_92 : decode cX4_findExchangeable 92 = .ok (.ior, 1) := by decide +kernel
theorem dX4_findExchangeable_93 : decode cX4_findExchangeable 93 = .ok (.istore_n 2, 1) := by decide +kernel
theorem dX4_findExchangeable_94 : decode cX4_findExchangeable 94 = .ok (.aload_n 0, 1) := by decide +kernel
theorem dX4_findExchangeable_95 : decode cX4_findExchangeable 95 = .ok (.getfield 21, 3) := by decide +kernel
theorem dX4_findExchangeable_98 : decode cX4_findExchangeable 98 = .ok (.iload 5, 2) := by decide +kernel
theorem dX4_findExchangeable_100 : decode cX4_findExchangeable 100 = .ok (.invokevirtual 241, 3) := by decide +kernel
theorem dX4_findExchangeable_103 : decode cX4_findExchangeable 103 = .ok (.iinc 5 1, 3) := by decide +kernel
theorem dX4_findExchangeable_106 : decode cX4_findExchangeable 106 = .ok (.goto (-71), 3) := by decide +kernel
theorem dX4_findExchangeable_109 : decode cX4_findExchangeable 109 = .ok (.iload_n 2, 1) := by decide +kernel
theorem dX4_findExchangeable_110 : decode cX4_findExchangeable 110 = .ok (.ireturn, 1) := by decide +kernel
theorem dJ6_bitCount_0f7a4_0 : decode cJ6_bitCount_0f7a4 0 = .ok (.iload_n 0, 1) := by decide +kernel
theorem dJ6_bitCount_0f7a4_1 : decode cJ6_bitCount_0f7a4 1 = .ok (.iload_n 0, 1) := by decide +kernel
theorem dJ6_bitCount_0f7a4_2 : decode cJ6_bitCount_0f7a4 2 = .ok (.iconst 1, 1) := by decide +kernel
theorem dJ6_bitCount_0f7a4_3 : decode cJ6_bitCount_0f7a4 3 = .ok (.iushr, 1) := by decide +kernel
theorem dJ6_bitCount_0f7a4_4 : decode cJ6_bitCount_0f7a4 4 = .ok (.ldc_w 265, 3) := by decide +kernel
theorem dJ6_bitCount_0f7a4_7 : decode cJ6_bitCount_0f7a4 7 = .ok (.iand, 1) := by decide +kernel
theorem dJ6_bitCount_0f7a4_8 : decode cJ6_bitCount_0f7a4 8 = .ok (.isub, 1) := by decide +kernel
theorem dJ6_bitCount_0f7a4_9 : decode cJ6_bitCount_0f7a4 9 = .ok (.istore_n 0, 1) := by decide +kernel
theorem dJ6_bitCount_0f7a4_10 : decode cJ6_bitCount_0f7a4 10 = .ok (.iload_n 0, 1) := by decide +kernel
theorem dJ6_bitCount_0f7a4_11 : decode cJ6_bitCount_0f7a4 11 = .ok (.ldc_w 266, 3) := by decide +kernel
theorem dJ6_bitCount_0f7a4_14 : decode cJ6_bitCount_0f7a4 14 = .ok (.iand, 1) := by decide +kernel
theorem dJ6_bitCount_0f7a4_15 : decode cJ6_bitCount_0f7a4 15 = .ok (.iload_n 0, 1) := by decide +kernel
theorem dJ6_bitCount_0f7a4_16 : decode cJ6_bitCount_0f7a4 16 = .ok (.iconst 2, 1) := by decide +kernel
theorem dJ6_bitCount_0f7a4_17 : decode cJ6_bitCount_0f7a4 17 = .ok (.iushr, 1) := by decide +kernel
theorem dJ6_bitCount_0f7a4_18 : decode cJ6_bitCount_0f7a4 18 = .ok (.ldc_w 266, 3) := by decide +kernel
theorem dJ6_bitCount_0f7a4_21 : decode cJ6_bitCount_0f7a4 21 = .ok (.iand, 1) := by decide +kernel
theorem dJ6_bitCount_0f7a4_22 : decode cJ6_bitCount_0f7a4 22 = .ok (.iadd, 1) := by decide +kernel
theorem dJ6_bitCount_0f7a4_23 : decode cJ6_bitCount_0f7a4 23 = .ok (.istore_n 0, 1) := by decide +kernel
theorem dJ6_bitCount_0f7a4_24 : decode cJ6_bitCount_0f7a4 24 = .ok (.iload_n 0, 1) := by decide +kernel
theorem dJ6_bitCount_0f7a4_25 : decode cJ6_bitCount_0f7a4 25 = .ok (.iload_n 0, 1) := by decide +kernel
theorem dJ6_bitCount_0f7a4_26 : decode cJ6_bitCount_0f7a4 26 = .ok (.iconst 4, 1) := by decide +kernel
theorem dJ6_bitCount_0f7a4_27 : decode cJ6_bitCount_0f7a4 27 = .ok (.iushr, 1) := by decide +kernel
theorem dJ6_bitCount_0f7a4_28 : decode cJ6_bitCount_0f7a4 28 = .ok (.iadd, 1) := by decide +kernel
theorem dJ6_bitCount_0f7a4_29 : decode cJ6_bitCount_0f7a4 29 = .ok (.ldc_w 267, 3) := by decide +kernel
theorem dJ6_bitCount_0f7a4_32 : decode cJ6_bitCount_0f7a4 32 = .ok (.iand, 1) := by decide +kernel
theorem dJ6_bitCount_0f7a4_33 : decode cJ6_bitCount_0f7a4 33 = .ok (.istore_n 0, 1) := by decide +kernel
theorem dJ6_bitCount_0f7a4_34 : decode cJ6_bitCount_0f7a4 34 = .ok (.iload_n 0, 1) := by decide +kernel
theorem dJ6_bitCount_0f7a4_35 : decode cJ6_bitCount_0f7a4 35 = .ok (.iload_n 0, 1) := by decide +kernel
theorem dJ6_bitCount_0f7a4_36 : decode cJ6_bitCount_0f7a4 36 = .ok (.bipush 8, 2) := by decide +kernel
theorem dJ6_bitCount_0f7a4_38 : decode cJ6_bitCount_0f7a4 38 = .ok (.iushr, 1) := by decide +kernel
theorem dJ6_bitCount_0f7a4_39 : decode cJ6_bitCount_0f7a4 39 = .ok (.iadd, 1) := by decide +kernel
theorem dJ6_bitCount_0f7a4_40 : decode cJ6_bitCount_0f7a4 40 = .ok (.istore_n 0, 1) := by decide +kernel
theorem dJ6_bitCount_0f7a4_41 : decode cJ6_bitCount_0f7a4 41 = .ok (.iload_n 0, 1) := by decide +kernel
theorem dJ6_bitCount_0f7a4_42 : decode cJ6_bitCount_0f7a4 42 = .ok (.iload_n 0, 1) := by decide +kernel
theorem dJ6_bitCount_0f7a4_43 : decode cJ6_bitCount_0f7a4 43 = .ok (.bipush 16, 2) := by decide +kernel
theorem dJ6_bitCount_0f7a4_45 : decode cJ6_bitCount_0f7a4 45 = .ok (.iushr, 1) := by decide +kernel
theorem dJ6_bitCount_0f7a4_46 : decode cJ6_bitCount_0f7a4 46 = .ok (.iadd, 1) := by decide +kernel
theorem dJ6_bitCount_0f7a4_47 : decode cJ6_bitCount_0f7a4 47 = .ok (.istore_n 0, 1) := by decide +kernel
theorem dJ6_bitCount_0f7a4_48 : decode cJ6_bitCount_0f7a4 48 = .ok (.iload_n 0, 1) := by decide +kernel
theorem dJ6_bitCount_0f7a4_49 : decode cJ6_bitCount_0f7a4 49 = .ok (.bipush 63, 2) := by decide +kernel
theorem dJ6_bitCount_0f7a4_51 : decode cJ6_bitCount_0f7a4 51 = .ok (.iand, 1) := by decide +kernel
theorem dJ6_bitCount_0f7a4_52 : decode cJ6_bitCount_0f7a4 52 = .ok (.ireturn, 1) := by decide +kernel
end
section
theorem dX5_init_0 : decode cX5_init 0 = .ok (.aload_n 0, 1) := by decide +kernel
theorem dX5_init_1 : decode cX5_init 1 = .ok (.invokespecial 1, 3) := by decide +kernel
theorem dX5_init_4 : decode cX5_init 4 = .ok (.aload_n 0, 1) := by decide +kernel
theorem dX5_init_5 : decode cX5_init 5 = .ok (.bipush 24, 2) := by decide +kernel
theorem dX5_init_7 : decode cX5_init 7 = .ok (.newarray .long, 2) := by decide +kernel
theorem dX5_init_9 : decode cX5_init 9 = .ok (.putfield 7, 3) := by decide +kernel
theorem dX5_init_12 : decode cX5_init 12 = .ok (.aload_n 0, 1) := by decide +kernel
theorem dX5_init_13 : decode cX5_init 13 = .ok (.bipush 24, 2) := by decide +kernel
theorem dX5_init_15 : decode cX5_init 15 = .ok (.newarray .int, 2) := by decide +kernel
theorem dX5_init_17 : decode cX5_init 17 = .ok (.putfield 13, 3) := by decide +kernel
theorem dX5_init_20 : decode cX5_init 20 = .ok (.aload_n 0, 1) := by decide +kernel
theorem dX5_init_21 : decode cX5_init 21 = .ok (.sipush 192, 3) := by decide +kernel
theorem dX5_init_24 : decode cX5_init 24 = .ok (.newarray .long, 2) := by decide +kernel
theorem dX5_init_26 : decode cX5_init 26 = .ok (.putfield 17, 3) := by decide +kernel
theorem dX5_init_29 : decode cX5_init 29 = .ok (.aload_n 0, 1) := by decide +kernel
theorem dX5_init_30 : decode cX5_init 30 = .ok (.bipush 96, 2) := by decide +kernel
theorem dX5_init_32 : decode cX5_init 32 = .ok (.newarray .long, 2) := by decide +kernel
theorem dX5_init_34 : decode cX5_init 34 = .ok (.putfield 20, 3) := by decide +kernel
theorem dX5_init_37 : decode cX5_init 37 = .ok (.aload_n 0, 1) := by decide +kernel
theorem dX5_init_38 : decode cX5_init 38 = .ok (.sipush 576, 3) := by decide +kernel
theorem dX5_init_41 : decode cX5_init 41 = .ok (.newarray .long, 2) := by decide +kernel
theorem dX5_init_43 : decode cX5_init 43 = .ok (.putfield 23, 3) := by decide +kernel
theorem dX5_init_46 : decode cX5_init 46 = .ok (.aload_n 0, 1) := by decide +kernel
theorem dX5_init_47 : decode cX5_init 47 = .ok (.sipush 576, 3) := by decide +kernel
theorem dX5_init_50 : decode cX5_init 50 = .ok (.newarray .boolean, 2) := by decide +kernel
theorem dX5_init_52 : decode cX5_init 52 = .ok (.putfield 26, 3) := by decide +kernel
theorem dX5_init_55 : decode cX5_init 55 = .ok (.aload_n 0, 1) := by decide +kernel
theorem dX5_init_56 : decode cX5_init 56 = .ok (.bipush 8, 2) := by decide +kernel
theorem dX5_init_58 : decode cX5_init 58 = .ok (.newarray .boolean, 2) := by decide +kernel
theorem dX5_init_60 : decode cX5_init 60 = .ok (.putfield 30, 3) := by decide +kernel
theorem dX5_init_63 : decode cX5_init 63 = .ok (.aload_n 0, 1) := by decide +kernel
theorem dX5_init_64 : decode cX5_init 64 = .ok (.bipush 8, 2) := by decide +kernel
theorem dX5_init_66 : decode cX5_init 66 = .ok (.newarray .long, 2) := by decide +kernel
theorem dX5_init_68 : decode cX5_init 68 = .ok (.putfield 33, 3) := by decide +kernel
theorem dX5_init_71 : decode cX5_init 71 = .ok (.aload_n 0, 1) := by decide +kernel
theorem dX5_init_72 : decode cX5_init 72 = .ok (.bipush 8, 2) := by decide +kernel
theorem dX5_init_74 : decode cX5_init 74 = .ok (.newarray .long, 2) := by decide +kernel
theorem dX5_init_76 : decode cX5_init 76 = .ok (.putfield 36, 3) := by decide +kernel
theorem dX5_init_79 : decode cX5_init 79 = .ok (.aload_n 0, 1) := by decide +kernel
theorem dX5_init_80 : decode cX5_init 80 = .ok (.lload_n 1, 1) := by decide +kernel
theorem dX5_init_81 : decode cX5_init 81 = .ok (.invokestatic 39, 3) := by decide +kernel
theorem dX5_init_84 : decode cX5_init 84 = .ok (.putfield 43, 3) := by decide +kernel
theorem dX5_init_87 : decode cX5_init 87 = .ok (.return_, 1) := by decide +kernel
theorem dX5_begun_0 : decode cX5_begun 0 = .ok (.lload_n 0, 1) := by decide +kernel
theorem dX5_begun_1 : decode cX5_begun 1 = .ok (.lconst 0, 1) := by decide +kernel
theorem dX5_begun_2 : decode cX5_begun 2 = .ok (.lcmp, 1) := by decide +kernel
theorem dX5_begun_3 : decode cX5_begun 3 = .ok (.ifCond .ne 9, 3) := by decide +kernel
theorem dX5_begun_6 : decode cX5_begun 6 = .ok (.ldc2_w 47, 3) := by decide +kernel
theorem dX5_begun_9 : decode cX5_begun 9 = .ok (.goto 4, 3) := by decide +kernel
theorem dX5_begun_12 : decode cX5_begun 12 = .ok (.lload_n 0, 1) := by decide +kernel
theorem dX5_begun_13 : decode cX5_begun 13 = .ok (.lreturn, 1) := by decide +kernel
theorem dX5_isCell_0 : decode cX5_isCell 0 = .ok (.iload_n 1, 1) := by decide +kernel
theorem dX5_isCell_1 : decode cX5_isCell 1 = .ok (.ifCond .lt 15, 3) := by decide +kernel
theorem dX5_isCell_4 : decode cX5_isCell 4 = .ok (.iload_n 1, 1) := by decide +kernel
theorem dX5_isCell_5 : decode cX5_isCell 5 = .ok (.aload_n 0, 1) := by decide +kernel
theorem dX5_isCell_6 : decode cX5_isCell 6 = .ok (.getfield 49, 3) := by decide +kernel
theorem dX5_isCell_9 : decode cX5_isCell 9 = .ok (.if_icmp .ge 7, 3) := by decide +kernel
theorem dX5_isCell_12 : decode cX5_isCell 12 = .ok (.iconst 1, 1) := by decide +kernel
theorem dX5_isCell_13 : decode cX5_isCell 13 = .ok (.goto 4, 3) := by decide +kernel
theorem dX5_isCell_16 : decode cX5_isCell 16 = .ok (.iconst 0, 1) := by decide +kernel
theorem dX5_isCell_17 : decode cX5_isCell 17 = .ok (.ireturn, 1) := by decide +kernel
theorem dX5_isKind_0 : decode cX5_isKind 0 = .ok (.iload_n 0, 1) := by decide +kernel
theorem dX5_isKind_1 : decode cX5_isKind 1 = .ok (.ifCond .lt 13, 3) := by decide +kernel
theorem dX5_isKind_4 : decode cX5_isKind 4 = .ok (.iload_n 0, 1) := by decide +kernel
theorem dX5_isKind_5 : decode cX5_isKind 5 = .ok (.bipush 8, 2) := by decide +kernel
theorem dX5_isKind_7 : decode cX5_isKind 7 = .ok (.if_icmp .ge 7, 3) := by decide +kernel
theorem dX5_isKind_10 : decode cX5_isKind 10 = .ok (.iconst 1, 1) := by decide +kernel
theorem dX5_isKind_11 : decode cX5_isKind 11 = .ok (.goto 4, 3) := by decide +kernel
theorem dX5_isKind_14 : decode cX5_isKind 14 = .ok (.iconst 0, 1) := by decide +kernel
theorem dX5_isKind_15 : decode cX5_isKind 15 = .ok (.ireturn, 1) := by decide +kernel
theorem dX5_isPort_0 : decode cX5_isPort 0 = .ok (.iload_n 0, 1) := by decide +kernel
theorem dX5_isPort_1 : decode cX5_isPort 1 = .ok (.ifCond .lt 12, 3) := by decide +kernel
theorem dX5_isPort_4 : decode cX5_isPort 4 = .ok (.iload_n 0, 1) := by decide +kernel
theorem dX5_isPort_5 : decode cX5_isPort 5 = .ok (.iconst 4, 1) := by decide +kernel
theorem dX5_isPort_6 : decode cX5_isPort 6 = .ok (.if_icmp .ge 7, 3) := by decide +kernel
theorem dX5_isPort_9 : decode cX5_isPort 9 = .ok (.iconst 1, 1) := by decide +kernel
theorem dX5_isPort_10 : decode cX5_isPort 10 = .ok (.goto 4, 3) := by decide +kernel
theorem dX5_isPort_13 : decode cX5_isPort 13 = .ok (.iconst 0, 1) := by decide +kernel
theorem dX5_isPort_14 : decode cX5_isPort 14 = .ok (.ireturn, 1) := by decide +kernel
theorem dX5_isShare_0 : decode cX5_isShare 0 = .ok (.lload_n 0, 1) := by decide +kernel
theorem dX5_isShare_1 : decode cX5_isShare 1 = .ok (.lconst 0, 1) := by decide +kernel
theorem dX5_isShare_2 : decode cX5_isShare 2 = .ok (.lcmp, 1) := by decide +kernel
theorem dX5_isShare_3 : decode cX5_isShare 3 = .ok (.ifCond .lt 27, 3) := by decide +kernel
theorem dX5_isShare_6 : decode cX5_isShare 6 = .ok (.lload_n 0, 1) := by decide +kernel
theorem dX5_isShare_7 : decode cX5_isShare 7 = .ok (.lload_n 2, 1) := by decide +kernel
theorem dX5_isShare_8 : decode cX5_isShare 8 = .ok (.lcmp, 1) := by decide +kernel
theorem dX5_isShare_9 : decode cX5_isShare 9 = .ok (.ifCond .gt 21, 3) := by decide +kernel
theorem dX5_isShare_12 : decode cX5_isShare 12 = .ok (.lload_n 2, 1) := by decide +kernel
theorem dX5_isShare_13 : decode cX5_isShare 13 = .ok (.lconst 1, 1) := by decide +kernel
theorem dX5_isShare_14 : decode cX5_isShare 14 = .ok (.lcmp, 1) := by decide +kernel
theorem dX5_isShare_15 : decode cX5_isShare 15 = .ok (.ifCond .lt 15, 3) := by decide +kernel
theorem dX5_isShare_18 : decode cX5_isShare 18 = .ok (.lload_n 2, 1) := by decide +kernel
theorem dX5_isShare_19 : decode cX5_isShare 19 = .ok (.ldc2_w 53, 3) := by decide +kernel
theorem dX5_isShare_22 : decode cX5_isShare 22 = .ok (.lcmp, 1) := by decide +kernel
theorem dX5_isShare_23 : decode cX5_isShare 23 = .ok (.ifCond .gt 7, 3) := by decide +kernel
theorem dX5_isShare_26 : decode cX5_isShare 26 = .ok (.iconst 1, 1) := by decide +kernel
theorem dX5_isShare_27 : decode cX5_isShare 27 = .ok (.goto 4, 3) := by decide +kernel
theorem dX5_isShare_30 : decode cX5_isShare 30 = .ok (.iconst 0, 1) := by decide +kernel
theorem dX5_isShare_31 : decode cX5_isShare 31 = .ok (.ireturn, 1) := by decide +kernel
theorem dX5_cell_0 : decode cX5_cell 0 = .ok (.aload_n 0, 1) := by decide +kernel
theorem dX5_cell_1 : decode cX5_cell 1 = .ok (.getfield 49, 3) := by decide +kernel
theorem dX5_cell_4 : decode cX5_cell 4 = .ok (.bipush 24, 2) := by decide +kernel
theorem dX5_cell_6 : decode cX5_cell 6 = .ok (.if_icmp .eq 17, 3) := by decide +kernel
theorem dX5_cell_9 : decode cX5_cell 9 = .ok (.lload_n 1, 1) := by decide +kernel
theorem dX5_cell_10 : decode cX5_cell 10 = .ok (.lconst 0, 1) := by decide +kernel
theorem dX5_cell_11 : decode cX5_cell 11 = .ok (.lcmp, 1) := by decide +kernel
theorem dX5_cell_12 : decode cX5_cell 12 = .ok (.ifCond .lt 11, 3) := by decide +kernel
theorem dX5_cell_15 : decode cX5_cell 15 = .ok (.lload_n 1, 1) := by decide +kernel
theorem dX5_cell_16 : decode cX5_cell 16 = .ok (.ldc2_w 55, 3) := by decide +kernel
theorem dX5_cell_19 : decode cX5_cell 19 = .ok (.lcmp, 1) := by decide +kernel
theorem dX5_cell_20 : decode cX5_cell 20 = .ok (.ifCond .le 5, 3) := by decide +kernel
theorem dX5_cell_23 : decode cX5_cell 23 = .ok (.iconst (-1), 1) := by decide +kernel
theorem dX5_cell_24 : decode cX5_cell 24 = .ok (.ireturn, 1) := by decide +kernel
theorem dX5_cell_25 : decode cX5_cell 25 = .ok (.aload_n 0, 1) := by decide +kernel
theorem dX5_cell_26 : decode cX5_cell 26 = .ok (.getfield 7, 3) := by decide +kernel
theorem dX5_cell_29 : decode cX5_cell 29 = .ok (.aload_n 0, 1) := by decide +kernel
theorem dX5_cell_30 : decode cX5_cell 30 = .ok (.getfield 49, 3) := by decide +kernel
theorem dX5_cell_33 : decode cX5_cell 33 = .ok (.lload_n 1, 1) := by decide +kernel
theorem dX5_cell_34 : decode cX5_cell 34 = .ok (.lastore, 1) := by decide +kernel
theorem dX5_cell_35 : decode cX5_cell 35 = .ok (.aload_n 0, 1) := by decide +kernel
theorem dX5_cell_36 : decode cX5_cell 36 = .ok (.dup, 1) := by decide +kernel
theorem dX5_cell_37 : decode cX5_cell 37 = .ok (.getfield 49, 3) := by decide +kernel
theorem dX5_cell_40 : decode cX5_cell 40 = .ok (.iconst 1, 1) := by decide +kernel
theorem dX5_cell_41 : decode cX5_cell 41 = .ok (.iadd, 1) := by decide +kernel
theorem dX5_cell_42 : decode cX5_cell 42 = .ok (.putfield 49, 3) := by decide +kernel
theorem dX5_cell_45 : decode cX5_cell 45 = .ok (.aload_n 0, 1) := by decide +kernel
theorem dX5_cell_46 : decode cX5_cell 46 = .ok (.getfield 49, 3) := by decide +kernel
theorem dX5_cell_49 : decode cX5_cell 49 = .ok (.iconst 1, 1) := by decide +kernel
theorem dX5_cell_50 : decode cX5_cell 50 = .ok (.isub, 1) := by decide +kernel
theorem dX5_cell_51 : decode cX5_cell 51 = .ok (.ireturn, 1) := by decide +kernel
theorem dX5_holds_0 : decode cX5_holds 0 = .ok (.aload_n 0, 1) := by decide +kernel
theorem dX5_holds_1 : decode cX5_holds 1 = .ok (.iload_n 1, 1) := by decide +kernel
theorem dX5_holds_2 : decode cX5_holds 2 = .ok (.invokevirtual 57, 3) := by decide +kernel
theorem dX5_holds_5 : decode cX5_holds 5 = .ok (.ifCond .eq 40, 3) := by decide +kernel
theorem dX5_holds_8 : decode cX5_holds 8 = .ok (.iload_n 2, 1) := by decide +kernel
theorem dX5_holds_9 : decode cX5_holds 9 = .ok (.invokestatic 61, 3) := by decide +kernel
theorem dX5_holds_12 : decode cX5_holds 12 = .ok (.ifCond .eq 33, 3) := by decide +kernel
theorem dX5_holds_15 : decode cX5_holds 15 = .ok (.lload_n 3, 1) := by decide +kernel
theorem dX5_holds_16 : decode cX5_holds 16 = .ok (.lconst 0, 1) := by decide +kernel
theorem dX5_holds_17 : decode cX5_holds 17 = .ok (.lcmp, 1) := by decide +kernel
theorem dX5_holds_18 : decode cX5_holds 18 = .ok (.ifCond .lt 27, 3) := by decide +kernel
theorem dX5_holds_21 : decode cX5_holds 21 = .ok (.lload_n 3, 1) := by decide +kernel
theorem dX5_holds_22 : decode cX5_holds 22 = .ok (.ldc2_w 64, 3) := by decide +kernel
theorem dX5_holds_25 : decode cX5_holds 25 = .ok (.lcmp, 1) := by decide +kernel
theorem dX5_holds_26 : decode cX5_holds 26 = .ok (.ifCond .gt 19, 3) := by decide +kernel
theorem dX5_holds_29 : decode cX5_holds 29 = .ok (.lload 5, 2) := by decide +kernel
theorem dX5_holds_31 : decode cX5_holds 31 = .ok (.lconst 1, 1) := by decide +kernel
theorem dX5_holds_32 : decode cX5_holds 32 = .ok (.lcmp, 1) := by decide +kernel
theorem dX5_holds_33 : decode cX5_holds 33 = .ok (.ifCond .lt 12, 3) := by decide +kernel
theorem dX5_holds_36 : decode cX5_holds 36 = .ok (.lload 5, 2) := by decide +kernel
theorem dX5_holds_38 : decode cX5_holds 38 = .ok (.ldc2_w 66, 3) := by decide +kernel
theorem dX5_holds_41 : decode cX5_holds 41 = .ok (.lcmp, 1) := by decide +kernel
theorem dX5_holds_42 : decode cX5_holds 42 = .ok (.ifCond .le 5, 3) := by decide +kernel
theorem dX5_holds_45 : decode cX5_holds 45 = .ok (.iconst 0, 1) := by decide +kernel
theorem dX5_holds_46 : decode cX5_holds 46 = .ok (.ireturn, 1) := by decide +kernel
theorem dX5_holds_47 : decode cX5_holds 47 = .ok (.aload_n 0, 1) := by decide +kernel
theorem dX5_holds_48 : decode cX5_holds 48 = .ok (.getfield 17, 3) := by decide +kernel
theorem dX5_holds_51 : decode cX5_holds 51 = .ok (.bipush 24, 2) := by decide +kernel
theorem dX5_holds_53 : decode cX5_holds 53 = .ok (.iload_n 2, 1) := by decide +kernel
theorem dX5_holds_54 : decode cX5_holds 54 = .ok (.imul, 1) := by decide +kernel
theorem dX5_holds_55 : decode cX5_holds 55 = .ok (.iload_n 1, 1) := by decide +kernel
theorem dX5_holds_56 : decode cX5_holds 56 = .ok (.iadd, 1) := by decide +kernel
theorem dX5_holds_57 : decode cX5_holds 57 = .ok (.lload_n 3, 1) := by decide +kernel
theorem dX5_holds_58 : decode cX5_holds 58 = .ok (.ldc2_w 68, 3) := by decide +kernel
theorem dX5_holds_61 : decode cX5_holds 61 = .ok (.lload 5, 2) := by decide +kernel
theorem dX5_holds_63 : decode cX5_holds 63 = .ok (.ldiv, 1) := by decide +kernel
theorem dX5_holds_64 : decode cX5_holds 64 = .ok (.lmul, 1) := by decide +kernel
theorem dX5_holds_65 : decode cX5_holds 65 = .ok (.lastore, 1) := by decide +kernel
theorem dX5_holds_66 : decode cX5_holds 66 = .ok (.iconst 1, 1) := by decide +kernel
theorem dX5_holds_67 : decode cX5_holds 67 = .ok (.ireturn, 1) := by decide +kernel
theorem dX5_goal_0 : decode cX5_goal 0 = .ok (.iload_n 1, 1) := by decide +kernel
theorem dX5_goal_1 : decode cX5_goal 1 = .ok (.invokestatic 61, 3) := by decide +kernel
theorem dX5_goal_4 : decode cX5_goal 4 = .ok (.ifCond .eq 12, 3) := by decide +kernel
theorem dX5_goal_7 : decode cX5_goal 7 = .ok (.lload_n 2, 1) := by decide +kernel
theorem dX5_goal_8 : decode cX5_goal 8 = .ok (.lload 4, 2) := by decide +kernel
theorem dX5_goal_10 : decode cX5_goal 10 = .ok (.invokestatic 70, 3) := by decide +kernel
theorem dX5_goal_13 : decode cX5_goal 13 = .ok (.ifCond .ne 5, 3) := by decide +kernel
theorem dX5_goal_16 : decode cX5_goal 16 = .ok (.iconst 0, 1) := by decide +kernel
theorem dX5_goal_17 : decode cX5_goal 17 = .ok (.ireturn, 1) := by decide +kernel
theorem dX5_goal_18 : decode cX5_goal 18 = .ok (.aload_n 0, 1) := by decide +kernel
theorem dX5_goal_19 : decode cX5_goal 19 = .ok (.getfield 30, 3) := by decide +kernel
theorem dX5_goal_22 : decode cX5_goal 22 = .ok (.iload_n 1, 1) := by decide +kernel
theorem dX5_goal_23 : decode cX5_goal 23 = .ok (.iconst 1, 1) := by decide +kernel
theorem dX5_goal_24 : decode cX5_goal 24 = .ok (.bastore, 1) := by decide +kernel
theorem dX5_goal_25 : decode cX5_goal 25 = .ok (.aload_n 0, 1) := by decide +kernel
theorem dX5_goal_26 : decode cX5_goal 26 = .ok (.getfield 33, 3) := by decide +kernel
theorem dX5_goal_29 : decode cX5_goal 29 = .ok (.iload_n 1, 1) := by decide +kernel
theorem dX5_goal_30 : decode cX5_goal 30 = .ok (.lload_n 2, 1) := by decide +kernel
theorem dX5_goal_31 : decode cX5_goal 31 = .ok (.lastore, 1) := by decide +kernel
theorem dX5_goal_32 : decode cX5_goal 32 = .ok (.aload_n 0, 1) := by decide +kernel
theorem dX5_goal_33 : decode cX5_goal 33 = .ok (.getfield 36, 3) := by decide +kernel
theorem dX5_goal_36 : decode cX5_goal 36 = .ok (.iload_n 1, 1) := by decide +kernel
theorem dX5_goal_37 : decode cX5_goal 37 = .ok (.lload 4, 2) := by decide +kernel
theorem dX5_goal_39 : decode cX5_goal 39 = .ok (.lastore, 1) := by decide +kernel
theorem dX5_goal_40 : decode cX5_goal 40 = .ok (.iconst 1, 1) := by decide +kernel
theorem dX5_goal_41 : decode cX5_goal 41 = .ok (.ireturn, 1) := by decide +kernel
theorem dX5_near_0 : decode cX5_near 0 = .ok (.aload_n 0, 1) := by decide +kernel
theorem dX5_near_1 : decode cX5_near 1 = .ok (.iload_n 1, 1) := by decide +kernel
theorem dX5_near_2 : decode cX5_near 2 = .ok (.invokevirtual 57, 3) := by decide +kernel
theorem dX5_near_5 : decode cX5_near 5 = .ok (.ifCond .eq 30, 3) := by decide +kernel
theorem dX5_near_8 : decode cX5_near 8 = .ok (.aload_n 0, 1) := by decide +kernel
theorem dX5_near_9 : decode cX5_near 9 = .ok (.iload_n 2, 1) := by decide +kernel
theorem dX5_near_10 : decode cX5_near 10 = .ok (.invokevirtual 57, 3) := by decide +kernel
theorem dX5_near_13 : decode cX5_near 13 = .ok (.ifCond .eq 22, 3) := by decide +kernel
theorem dX5_near_16 : decode cX5_near 16 = .ok (.iload_n 1, 1) := by decide +kernel
theorem dX5_near_17 : decode cX5_near 17 = .ok (.iload_n 2, 1) := by decide +kernel
theorem dX5_near_18 : decode cX5_near 18 = .ok (.if_icmp .eq 17, 3) := by decide +kernel
theorem dX5_near_21 : decode cX5_near 21 = .ok (.lload_n 3, 1) := by decide +kernel
theorem dX5_near_22 : decode cX5_near 22 = .ok (.lconst 0, 1) := by decide +kernel
theorem dX5_near_23 : decode cX5_near 23 = .ok (.lcmp, 1) := by decide +kernel
theorem dX5_near_24 : decode cX5_near 24 = .ok (.ifCond .lt 11, 3) := by decide +kernel
theorem dX5_near_27 : decode cX5_near 27 = .ok (.lload_n 3, 1) := by decide +kernel
theorem dX5_near_28 : decode cX5_near 28 = .ok (.ldc2_w 64, 3) := by decide +kernel
theorem dX5_near_31 : decode cX5_near 31 = .ok (.lcmp, 1) := by decide +kernel
theorem dX5_near_32 : decode cX5_near 32 = .ok (.ifCond .le 5, 3) := by decide +kernel
theorem dX5_near_35 : decode cX5_near 35 = .ok (.iconst 0, 1) := by decide +kernel
theorem dX5_near_36 : decode cX5_near 36 = .ok (.ireturn, 1) := by decide +kernel
theorem dX5_near_37 : decode cX5_near 37 = .ok (.aload_n 0, 1) := by decide +kernel
theorem dX5_near_38 : decode cX5_near 38 = .ok (.getfield 23, 3) := by decide +kernel
theorem dX5_near_41 : decode cX5_near 41 = .ok (.bipush 24, 2) := by decide +kernel
theorem dX5_near_43 : decode cX5_near 43 = .ok (.iload_n 1, 1) := by decide +kernel
theorem dX5_near_44 : decode cX5_near 44 = .ok (.imul, 1) := by decide +kernel
theorem dX5_near_45 : decode cX5_near 45 = .ok (.iload_n 2, 1) := by decide +kernel
theorem dX5_near_46 : decode cX5_near 46 = .ok (.iadd, 1) := by decide +kernel
theorem dX5_near_47 : decode cX5_near 47 = .ok (.lload_n 3, 1) := by decide +kernel
theorem dX5_near_48 : decode cX5_near 48 = .ok (.lastore, 1) := by decide +kernel
theorem dX5_near_49 : decode cX5_near 49 = .ok (.aload_n 0, 1) := by decide +kernel
theorem dX5_near_50 : decode cX5_near 50 = .ok (.getfield 23, 3) := by decide +kernel
theorem dX5_near_53 : decode cX5_near 53 = .ok (.bipush 24, 2) := by decide +kernel
theorem dX5_near_55 : decode cX5_near 55 = .ok (.iload_n 2, 1) := by decide +kernel
theorem dX5_near_56 : decode cX5_near 56 = .ok (.imul, 1) := by decide +kernel
theorem dX5_near_57 : decode cX5_near 57 = .ok (.iload_n 1, 1) := by decide +kernel
theorem dX5_near_58 : decode cX5_near 58 = .ok (.iadd, 1) := by decide +kernel
theorem dX5_near_59 : decode cX5_near 59 = .ok (.lload_n 3, 1) := by decide +kernel
theorem dX5_near_60 : decode cX5_near 60 = .ok (.lastore, 1) := by decide +kernel
theorem dX5_near_61 : decode cX5_near 61 = .ok (.iconst 1, 1) := by decide +kernel
theorem dX5_near_62 : decode cX5_near 62 = .ok (.ireturn, 1) := by decide +kernel
theorem dX5_far_0 : decode cX5_far 0 = .ok (.aload_n 0, 1) := by decide +kernel
theorem dX5_far_1 : decode cX5_far 1 = .ok (.iload_n 1, 1) := by decide +kernel
theorem dX5_far_2 : decode cX5_far 2 = .ok (.invokevirtual 57, 3) := by decide +kernel
theorem dX5_far_5 : decode cX5_far 5 = .ok (.ifCond .eq 16, 3) := by decide +kernel
theorem dX5_far_8 : decode cX5_far 8 = .ok (.aload_n 0, 1) := by decide +kernel
theorem dX5_far_9 : decode cX5_far 9 = .ok (.iload_n 2, 1) := by decide +kernel
theorem dX5_far_10 : decode cX5_far 10 = .ok (.invokevirtual 57, 3) := by decide +kernel
theorem dX5_far_13 : decode cX5_far 13 = .ok (.ifCond .eq 8, 3) := by decide +kernel
theorem dX5_far_16 : decode cX5_far 16 = .ok (.iload_n 1, 1) := by decide +kernel
theorem dX5_far_17 : decode cX5_far 17 = .ok (.iload_n 2, 1) := by decide +kernel
theorem dX5_far_18 : decode cX5_far 18 = .ok (.if_icmp .ne 5, 3) := by decide +kernel
theorem dX5_far_21 : decode cX5_far 21 = .ok (.iconst 0, 1) := by decide +kernel
theorem dX5_far_22 : decode cX5_far 22 = .ok (.ireturn, 1) := by decide +kernel
theorem dX5_far_23 : decode cX5_far 23 = .ok (.aload_n 0, 1) := by decide +kernel
theorem dX5_far_24 : decode cX5_far 24 = .ok (.getfield 26, 3) := by decide +kernel
theorem dX5_far_27 : decode cX5_far 27 = .ok (.bipush 24, 2) := by decide +kernel
theorem dX5_far_29 : decode cX5_far 29 = .ok (.iload_n 1, 1) := by decide +kernel
theorem dX5_far_30 : decode cX5_far 30 = .ok (.imul, 1) := by decide +kernel
theorem dX5_far_31 : decode cX5_far 31 = .ok (.iload_n 2, 1) := by decide +kernel
theorem dX5_far_32 : decode cX5_far 32 = .ok (.iadd, 1) := by decide +kernel
theorem dX5_far_33 : decode cX5_far 33 = .ok (.iload_n 3, 1) := by decide +kernel
theorem dX5_far_34 : decode cX5_far 34 = .ok (.ifCond .ge 7, 3) := by decide +kernel
theorem dX5_far_37 : decode cX5_far 37 = .ok (.iconst 1, 1) := by decide +kernel
theorem dX5_far_38 : decode cX5_far 38 = .ok (.goto 4, 3) := by decide +kernel
theorem dX5_far_41 : decode cX5_far 41 = .ok (.iconst 0, 1) := by decide +kernel
theorem dX5_far_42 : decode cX5_far 42 = .ok (.bastore, 1) := by decide +kernel
theorem dX5_far_43 : decode cX5_far 43 = .ok (.aload_n 0, 1) := by decide +kernel
theorem dX5_far_44 : decode cX5_far 44 = .ok (.getfield 26, 3) := by decide +kernel
theorem dX5_far_47 : decode cX5_far 47 = .ok (.bipush 24, 2) := by decide +kernel
theorem dX5_far_49 : decode cX5_far 49 = .ok (.iload_n 2, 1) := by decide +kernel
theorem dX5_far_50 : decode cX5_far 50 = .ok (.imul, 1) := by decide +kernel
theorem dX5_far_51 : decode cX5_far 51 = .ok (.iload_n 1, 1) := by decide +kernel
theorem dX5_far_52 : decode cX5_far 52 = .ok (.iadd, 1) := by decide +kernel
theorem dX5_far_53 : decode cX5_far 53 = .ok (.iload_n 3, 1) := by decide +kernel
theorem dX5_far_54 : decode cX5_far 54 = .ok (.ifCond .ge 7, 3) := by decide +kernel
theorem dX5_far_57 : decode cX5_far 57 = .ok (.iconst 1, 1) := by decide +kernel
theorem dX5_far_58 : decode cX5_far 58 = .ok (.goto 4, 3) := by decide +kernel
theorem dX5_far_61 : decode cX5_far 61 = .ok (.iconst 0, 1) := by decide +kernel
theorem dX5_far_62 : decode cX5_far 62 = .ok (.bastore, 1) := by decide +kernel
theorem dX5_far_63 : decode cX5_far 63 = .ok (.iconst 1, 1) := by decide +kernel
theorem dX5_far_64 : decode cX5_far 64 = .ok (.ireturn, 1) := by decide +kernel
theorem dX5_weight_0 : decode cX5_weight 0 = .ok (.lload_n 1, 1) := by decide +kernel
theorem dX5_weight_1 : decode cX5_weight 1 = .ok (.lconst 0, 1) := by decide +kernel
theorem dX5_weight_2 : decode cX5_weight 2 = .ok (.lcmp, 1) := by decide +kernel
theorem dX5_weight_3 : decode cX5_weight 3 = .ok (.ifCond .lt 11, 3) := by decide +kernel
theorem dX5_weight_6 : decode cX5_weight 6 = .ok (.lload_n 1, 1) := by decide +kernel
theorem dX5_weight_7 : decode cX5_weight 7 = .ok (.ldc2_w 64, 3) := by decide +kernel
theorem dX5_weight_10 : decode cX5_weight 10 = .ok (.lcmp, 1) := by decide +kernel
theorem dX5_weight_11 : decode cX5_weight 11 = .ok (.ifCond .le 5, 3) := by decide +kernel
theorem dX5_weight_14 : decode cX5_weight 14 = .ok (.iconst 0, 1) := by decide +kernel
theorem dX5_weight_15 : decode cX5_weight 15 = .ok (.ireturn, 1) := by decide +kernel
theorem dX5_weight_16 : decode cX5_weight 16 = .ok (.aload_n 0, 1) := by decide +kernel
theorem dX5_weight_17 : decode cX5_weight 17 = .ok (.lload_n 1, 1) := by decide +kernel
theorem dX5_weight_18 : decode cX5_weight 18 = .ok (.putfield 74, 3) := by decide +kernel
theorem dX5_weight_21 : decode cX5_weight 21 = .ok (.iconst 1, 1) := by decide +kernel
theorem dX5_weight_22 : decode cX5_weight 22 = .ok (.ireturn, 1) := by decide +kernel
theorem dX5_must_0 : decode cX5_must 0 = .ok (.aload_n 0, 1) := by decide +kernel
theorem dX5_must_1 : decode cX5_must 1 = .ok (.iload_n 1, 1) := by decide +kernel
theorem dX5_must_2 : decode cX5_must 2 = .ok (.invokevirtual 57, 3) := by decide +kernel
theorem dX5_must_5 : decode cX5_must 5 = .ok (.ifCond .ne 5, 3) := by decide +kernel
theorem dX5_must_8 : decode cX5_must 8 = .ok (.iconst 0, 1) := by decide +kernel
theorem dX5_must_9 : decode cX5_must 9 = .ok (.ireturn, 1) := by decide +kernel
theorem dX5_must_10 : decode cX5_must 10 = .ok (.aload_n 0, 1) := by decide +kernel
theorem dX5_must_11 : decode cX5_must 11 = .ok (.getfield 13, 3) := by decide +kernel
theorem dX5_must_14 : decode cX5_must 14 = .ok (.iload_n 1, 1) := by decide +kernel
theorem dX5_must_15 : decode cX5_must 15 = .ok (.iconst 1, 1) := by decide +kernel
theorem dX5_must_16 : decode cX5_must 16 = .ok (.iastore, 1) := by decide +kernel
theorem dX5_must_17 : decode cX5_must 17 = .ok (.iconst 1, 1) := by decide +kernel
theorem dX5_must_18 : decode cX5_must 18 = .ok (.ireturn, 1) := by decide +kernel
theorem dX5_bar_0 : decode cX5_bar 0 = .ok (.aload_n 0, 1) := by decide +kernel
theorem dX5_bar_1 : decode cX5_bar 1 = .ok (.iload_n 1, 1) := by decide +kernel
theorem dX5_bar_2 : decode cX5_bar 2 = .ok (.invokevirtual 57, 3) := by decide +kernel
theorem dX5_bar_5 : decode cX5_bar 5 = .ok (.ifCond .ne 5, 3) := by decide +kernel
theorem dX5_bar_8 : decode cX5_bar 8 = .ok (.iconst 0, 1) := by decide +kernel
theorem dX5_bar_9 : decode cX5_bar 9 = .ok (.ireturn, 1) := by decide +kernel
theorem dX5_bar_10 : decode cX5_bar 10 = .ok (.aload_n 0, 1) := by decide +kernel
theorem dX5_bar_11 : decode cX5_bar 11 = .ok (.getfield 13, 3) := by decide +kernel
theorem dX5_bar_14 : decode cX5_bar 14 = .ok (.iload_n 1, 1) := by decide +kernel
theorem dX5_bar_15 : decode cX5_bar 15 = .ok (.iconst 2, 1) := by decide +kernel
theorem dX5_bar_16 : decode cX5_bar 16 = .ok (.iastore, 1) := by decide +kernel
theorem dX5_bar_17 : decode cX5_bar 17 = .ok (.iconst 1, 1) := by decide +kernel
theorem dX5_bar_18 : decode cX5_bar 18 = .ok (.ireturn, 1) := by decide +kernel
theorem dX5_port_0 : decode cX5_port 0 = .ok (.aload_n 0, 1) := by decide +kernel
theorem dX5_port_1 : decode cX5_port 1 = .ok (.iload_n 1, 1) := by decide +kernel
theorem dX5_port_2 : decode cX5_port 2 = .ok (.invokevirtual 57, 3) := by decide +kernel
theorem dX5_port_5 : decode cX5_port 5 = .ok (.ifCond .eq 24, 3) := by decide +kernel
theorem dX5_port_8 : decode cX5_port 8 = .ok (.iload_n 2, 1) := by decide +kernel
theorem dX5_port_9 : decode cX5_port 9 = .ok (.invokestatic 77, 3) := by decide +kernel
theorem dX5_port_12 : decode cX5_port 12 = .ok (.ifCond .eq 17, 3) := by decide +kernel
theorem dX5_port_15 : decode cX5_port 15 = .ok (.lload_n 3, 1) := by decide +kernel
theorem dX5_port_16 : decode cX5_port 16 = .ok (.lconst 0, 1) := by decide +kernel
theorem dX5_port_17 : decode cX5_port 17 = .ok (.lcmp, 1) := by decide +kernel
theorem dX5_port_18 : decode cX5_port 18 = .ok (.ifCond .lt 11, 3) := by decide +kernel
theorem dX5_port_21 : decode cX5_port 21 = .ok (.lload_n 3, 1) := by decide +kernel
theorem dX5_port_22 : decode cX5_port 22 = .ok (.ldc2_w 55, 3) := by decide +kernel
theorem dX5_port_25 : decode cX5_port 25 = .ok (.lcmp, 1) := by decide +kernel
theorem dX5_port_26 : decode cX5_port 26 = .ok (.ifCond .le 5, 3) := by decide +kernel
theorem dX5_port_29 : decode cX5_port 29 = .ok (.iconst 0, 1) := by decide +kernel
theorem dX5_port_30 : decode cX5_port 30 = .ok (.ireturn, 1) := by decide +kernel
theorem dX5_port_31 : decode cX5_port 31 = .ok (.aload_n 0, 1) := by decide +kernel
theorem dX5_port_32 : decode cX5_port 32 = .ok (.getfield 20, 3) := by decide +kernel
theorem dX5_port_35 : decode cX5_port 35 = .ok (.bipush 24, 2) := by decide +kernel
theorem dX5_port_37 : decode cX5_port 37 = .ok (.iload_n 2, 1) := by decide +kernel
theorem dX5_port_38 : decode cX5_port 38 = .ok (.imul, 1) := by decide +kernel
theorem dX5_port_39 : decode cX5_port 39 = .ok (.iload_n 1, 1) := by decide +kernel
theorem dX5_port_40 : decode cX5_port 40 = .ok (.iadd, 1) := by decide +kernel
theorem dX5_port_41 : decode cX5_port 41 = .ok (.lload_n 3, 1) := by decide +kernel
theorem dX5_port_42 : decode cX5_port 42 = .ok (.lastore, 1) := by decide +kernel
theorem dX5_port_43 : decode cX5_port 43 = .ok (.iconst 1, 1) := by decide +kernel
theorem dX5_port_44 : decode cX5_port 44 = .ok (.ireturn, 1) := by decide +kernel
theorem dX5_fair_0 : decode cX5_fair 0 = .ok (.lload_n 1, 1) := by decide +kernel
theorem dX5_fair_1 : decode cX5_fair 1 = .ok (.lload_n 3, 1) := by decide +kernel
theorem dX5_fair_2 : decode cX5_fair 2 = .ok (.invokestatic 70, 3) := by decide +kernel
theorem dX5_fair_5 : decode cX5_fair 5 = .ok (.ifCond .ne 5, 3) := by decide +kernel
theorem dX5_fair_8 : decode cX5_fair 8 = .ok (.iconst 0, 1) := by decide +kernel
theorem dX5_fair_9 : decode cX5_fair 9 = .ok (.ireturn, 1) := by decide +kernel
theorem dX5_fair_10 : decode cX5_fair 10 = .ok (.aload_n 0, 1) := by decide +kernel
theorem dX5_fair_11 : decode cX5_fair 11 = .ok (.iconst 1, 1) := by decide +kernel
theorem dX5_fair_12 : decode cX5_fair 12 = .ok (.putfield 80, 3) := by decide +kernel
theorem dX5_fair_15 : decode cX5_fair 15 = .ok (.aload_n 0, 1) := by decide +kernel
theorem dX5_fair_16 : decode cX5_fair 16 = .ok (.lload_n 1, 1) := by decide +kernel
theorem dX5_fair_17 : decode cX5_fair 17 = .ok (.putfield 84, 3) := by decide +kernel
theorem dX5_fair_20 : decode cX5_fair 20 = .ok (.aload_n 0, 1) := by decide +kernel
theorem dX5_fair_21 : decode cX5_fair 21 = .ok (.lload_n 3, 1) := by decide +kernel
theorem dX5_fair_22 : decode cX5_fair 22 = .ok (.putfield 87, 3) := by decide +kernel
theorem dX5_fair_25 : decode cX5_fair 25 = .ok (.iconst 1, 1) := by decide +kernel
theorem dX5_fair_26 : decode cX5_fair 26 = .ok (.ireturn, 1) := by decide +kernel
theorem dX5_size_0 : decode cX5_size 0 = .ok (.iload_n 1, 1) := by decide +kernel
theorem dX5_size_1 : decode cX5_size 1 = .ok (.ifCond .lt 9, 3) := by decide +kernel
theorem dX5_size_4 : decode cX5_size 4 = .ok (.iload_n 1, 1) := by decide +kernel
theorem dX5_size_5 : decode cX5_size 5 = .ok (.bipush 24, 2) := by decide +kernel
theorem dX5_size_7 : decode cX5_size 7 = .ok (.if_icmp .le 5, 3) := by decide +kernel
theorem dX5_size_10 : decode cX5_size 10 = .ok (.iconst (-1), 1) := by decide +kernel
theorem dX5_size_11 : decode cX5_size 11 = .ok (.ireturn, 1) := by decide +kernel
theorem dX5_size_12 : decode cX5_size 12 = .ok (.aload_n 0, 1) := by decide +kernel
theorem dX5_size_13 : decode cX5_size 13 = .ok (.iload_n 1, 1) := by decide +kernel
theorem dX5_size_14 : decode cX5_size 14 = .ok (.putfield 90, 3) := by decide +kernel
theorem dX5_size_17 : decode cX5_size 17 = .ok (.aload_n 0, 1) := by decide +kernel
theorem dX5_size_18 : decode cX5_size 18 = .ok (.getfield 49, 3) := by decide +kernel
theorem dX5_size_21 : decode cX5_size 21 = .ok (.ireturn, 1) := by decide +kernel
theorem dX5_wind_0 : decode cX5_wind 0 = .ok (.aload_n 0, 1) := by decide +kernel
theorem dX5_wind_1 : decode cX5_wind 1 = .ok (.iload_n 1, 1) := by decide +kernel
theorem dX5_wind_2 : decode cX5_wind 2 = .ok (.invokevirtual 57, 3) := by decide +kernel
theorem dX5_wind_5 : decode cX5_wind 5 = .ok (.ifCond .eq 32, 3) := by decide +kernel
theorem dX5_wind_8 : decode cX5_wind 8 = .ok (.lload_n 2, 1) := by decide +kernel
theorem dX5_wind_9 : decode cX5_wind 9 = .ok (.lconst 0, 1) := by decide +kernel
theorem dX5_wind_10 : decode cX5_wind 10 = .ok (.lcmp, 1) := by decide +kernel
theorem dX5_wind_11 : decode cX5_wind 11 = .ok (.ifCond .lt 26, 3) := by decide +kernel
theorem dX5_wind_14 : decode cX5_wind 14 = .ok (.lload_n 2, 1) := by decide +kernel
theorem dX5_wind_15 : decode cX5_wind 15 = .ok (.ldc2_w 55, 3) := by decide +kernel
theorem dX5_wind_18 : decode cX5_wind 18 = .ok (.lcmp, 1) := by decide +kernel
theorem dX5_wind_19 : decode cX5_wind 19 = .ok (.ifCond .gt 18, 3) := by decide +kernel
theorem dX5_wind_22 : decode cX5_wind 22 = .ok (.aload_n 0, 1) := by decide +kernel
theorem dX5_wind_23 : decode cX5_wind 23 = .ok (.getfield 7, 3) := by decide +kernel
theorem dX5_wind_26 : decode cX5_wind 26 = .ok (.iload_n 1, 1) := by decide +kernel
theorem dX5_wind_27 : decode cX5_wind 27 = .ok (.laload, 1) := by decide +kernel
theorem dX5_wind_28 : decode cX5_wind 28 = .ok (.lload_n 2, 1) := by decide +kernel
theorem dX5_wind_29 : decode cX5_wind 29 = .ok (.ladd, 1) := by decide +kernel
theorem dX5_wind_30 : decode cX5_wind 30 = .ok (.ldc2_w 93, 3) := by decide +kernel
theorem dX5_wind_33 : decode cX5_wind 33 = .ok (.lcmp, 1) := by decide +kernel
theorem dX5_wind_34 : decode cX5_wind 34 = .ok (.ifCond .le 5, 3) := by decide +kernel
theorem dX5_wind_37 : decode cX5_wind 37 = .ok (.iconst 0, 1) := by decide +kernel
theorem dX5_wind_38 : decode cX5_wind 38 = .ok (.ireturn, 1) := by decide +kernel
theorem dX5_wind_39 : decode cX5_wind 39 = .ok (.aload_n 0, 1) := by decide +kernel
theorem dX5_wind_40 : decode cX5_wind 40 = .ok (.getfield 7, 3) := by decide +kernel
theorem dX5_wind_43 : decode cX5_wind 43 = .ok (.iload_n 1, 1) := by decide +kernel
theorem dX5_wind_44 : decode cX5_wind 44 = .ok (.aload_n 0, 1) := by decide +kernel
theorem dX5_wind_45 : decode cX5_wind 45 = .ok (.getfield 7, 3) := by decide +kernel
theorem dX5_wind_48 : decode cX5_wind 48 = .ok (.iload_n 1, 1) := by decide +kernel
theorem dX5_wind_49 : decode cX5_wind 49 = .ok (.laload, 1) := by decide +kernel
theorem dX5_wind_50 : decode cX5_wind 50 = .ok (.lload_n 2, 1) := by decide +kernel
theorem dX5_wind_51 : decode cX5_wind 51 = .ok (.ladd, 1) := by decide +kernel
theorem dX5_wind_52 : decode cX5_wind 52 = .ok (.lastore, 1) := by decide +kernel
theorem dX5_wind_53 : decode cX5_wind 53 = .ok (.iconst 1, 1) := by decide +kernel
theorem dX5_wind_54 : decode cX5_wind 54 = .ok (.ireturn, 1) := by decide +kernel
theorem dX5_has_0 : decode cX5_has 0 = .ok (.iload_n 0, 1) := by decide +kernel
theorem dX5_has_1 : decode cX5_has 1 = .ok (.iload_n 1, 1) := by decide +kernel
theorem dX5_has_2 : decode cX5_has 2 = .ok (.ishr, 1) := by decide +kernel
theorem dX5_has_3 : decode cX5_has 3 = .ok (.iconst 1, 1) := by decide +kernel
theorem dX5_has_4 : decode cX5_has 4 = .ok (.iand, 1) := by decide +kernel
theorem dX5_has_5 : decode cX5_has 5 = .ok (.iconst 1, 1) := by decide +kernel
theorem dX5_has_6 : decode cX5_has 6 = .ok (.if_icmp .ne 7, 3) := by decide +kernel
theorem dX5_has_9 : decode cX5_has 9 = .ok (.iconst 1, 1) := by decide +kernel
theorem dX5_has_10 : decode cX5_has 10 = .ok (.goto 4, 3) := by decide +kernel
theorem dX5_has_13 : decode cX5_has 13 = .ok (.iconst 0, 1) := by decide +kernel
theorem dX5_has_14 : decode cX5_has 14 = .ok (.ireturn, 1) := by decide +kernel
theorem dX5_count_0 : decode cX5_count 0 = .ok (.iconst 0, 1) := by decide +kernel
theorem dX5_count_1 : decode cX5_count 1 = .ok (.istore_n 2, 1) := by decide +kernel
theorem dX5_count_2 : decode cX5_count 2 = .ok (.iconst 0, 1) := by decide +kernel
theorem dX5_count_3 : decode cX5_count 3 = .ok (.istore_n 3, 1) := by decide +kernel
theorem dX5_count_4 : decode cX5_count 4 = .ok (.iload_n 3, 1) := by decide +kernel
theorem dX5_count_5 : decode cX5_count 5 = .ok (.aload_n 0, 1) := by decide +kernel
theorem dX5_count_6 : decode cX5_count 6 = .ok (.getfield 49, 3) := by decide +kernel
theorem dX5_count_9 : decode cX5_count 9 = .ok (.if_icmp .ge 25, 3) := by decide +kernel
theorem dX5_count_12 : decode cX5_count 12 = .ok (.iload_n 2, 1) := by decide +kernel
theorem dX5_count_13 : decode cX5_count 13 = .ok (.iload_n 1, 1) := by decide +kernel
theorem dX5_count_14 : decode cX5_count 14 = .ok (.iload_n 3, 1) := by decide +kernel
theorem dX5_count_15 : decode cX5_count 15 = .ok (.invokestatic 95, 3) := by decide +kernel
theorem dX5_count_18 : decode cX5_count 18 = .ok (.ifCond .eq 7, 3) := by decide +kernel
theorem dX5_count_21 : decode cX5_count 21 = .ok (.iconst 1, 1) := by decide +kernel
theorem dX5_count_22 : decode cX5_count 22 = .ok (.goto 4, 3) := by decide +kernel
theorem dX5_count_25 : decode cX5_count 25 = .ok (.iconst 0, 1) := by decide +kernel
theorem dX5_count_26 : decode cX5_count 26 = .ok (.iadd, 1) := by decide +kernel
theorem dX5_count_27 : decode cX5_count 27 = .ok (.istore_n 2, 1) := by decide +kernel
theorem dX5_count_28 : decode cX5_count 28 = .ok (.iinc 3 1, 3) := by decide +kernel
theorem dX5_count_31 : decode cX5_count 31 = .ok (.goto (-27), 3) := by decide +kernel
theorem dX5_count_34 : decode cX5_count 34 = .ok (.iload_n 2, 1) := by decide +kernel
theorem dX5_count_35 : decode cX5_count 35 = .ok (.ireturn, 1) := by decide +kernel
theorem dX5_all_0 : decode cX5_all 0 = .ok (.iconst 1, 1) := by decide +kernel
theorem dX5_all_1 : decode cX5_all 1 = .ok (.aload_n 0, 1) := by decide +kernel
theorem dX5_all_2 : decode cX5_all 2 = .ok (.getfield 49, 3) := by decide +kernel
theorem dX5_all_5 : decode cX5_all 5 = .ok (.ishl, 1) := by decide +kernel
theorem dX5_all_6 : decode cX5_all 6 = .ok (.iconst 1, 1) := by decide +kernel
theorem dX5_all_7 : decode cX5_all 7 = .ok (.isub, 1) := by decide +kernel
theorem dX5_all_8 : decode cX5_all 8 = .ok (.ireturn, 1) := by decide +kernel
theorem dX5_open_0 : decode cX5_open 0 = .ok (.iconst 0, 1) := by decide +kernel
theorem dX5_open_1 : decode cX5_open 1 = .ok (.istore_n 1, 1) := by decide +kernel
theorem dX5_open_2 : decode cX5_open 2 = .ok (.iconst 0, 1) := by decide +kernel
theorem dX5_open_3 : decode cX5_open 3 = .ok (.istore_n 2, 1) := by decide +kernel
theorem dX5_open_4 : decode cX5_open 4 = .ok (.iload_n 2, 1) := by decide +kernel
theorem dX5_open_5 : decode cX5_open 5 = .ok (.aload_n 0, 1) := by decide +kernel
theorem dX5_open_6 : decode cX5_open 6 = .ok (.getfield 49, 3) := by decide +kernel
theorem dX5_open_9 : decode cX5_open 9 = .ok (.if_icmp .ge 29, 3) := by decide +kernel
theorem dX5_open_12 : decode cX5_open 12 = .ok (.aload_n 0, 1) := by decide +kernel
theorem dX5_open_13 : decode cX5_open 13 = .ok (.getfield 13, 3) := by decide +kernel
theorem dX5_open_16 : decode cX5_open 16 = .ok (.iload_n 2, 1) := by decide +kernel
theorem dX5_open_17 : decode cX5_open 17 = .ok (.iaload, 1) := by decide +kernel
theorem dX5_open_18 : decode cX5_open 18 = .ok (.iconst 2, 1) := by decide +kernel
theorem dX5_open_19 : decode cX5_open 19 = .ok (.if_icmp .ne 7, 3) := by decide +kernel
theorem dX5_open_22 : decode cX5_open 22 = .ok (.iload_n 1, 1) := by decide +kernel
theorem dX5_open_23 : decode cX5_open 23 = .ok (.goto 8, 3) := by decide +kernel
theorem dX5_open_26 : decode cX5_open 26 = .ok (.iload_n 1, 1) := by decide +kernel
theorem dX5_open_27 : decode cX5_open 27 = .ok (.iconst 1, 1) := by decide +kernel
theorem dX5_open_28 : decode cX5_open 28 = .ok (.iload_n 2, 1) := by decide +kernel
theorem dX5_open_29 : decode cX5_open 29 = .ok (.ishl, 1) := by decide +kernel
theorem dX5_open_30 : decode cX5_open 30 = .ok (.ior, 1) := by decide +kernel
theorem dX5_open_31 : decode cX5_open 31 = .ok (.istore_n 1, 1) := by decide +kernel
theorem dX5_open_32 : decode cX5_open 32 = .ok (.iinc 2 1, 3) := by decide +kernel
theorem dX5_open_35 : decode cX5_open 35 = .ok (.goto (-31), 3) := by decide +kernel
theorem dX5_open_38 : decode cX5_open 38 = .ok (.iload_n 1, 1) := by decide +kernel
theorem dX5_open_39 : decode cX5_open 39 = .ok (.ireturn, 1) := by decide +kernel
theorem dX5_amount_0 : decode cX5_amount 0 = .ok (.lconst 0, 1) := by decide +kernel
theorem dX5_amount_1 : decode cX5_amount 1 = .ok (.lstore_n 3, 1) := by decide +kernel
theorem dX5_amount_2 : decode cX5_amount 2 = .ok (.iconst 0, 1) := by decide +kernel
theorem dX5_amount_3 : decode cX5_amount 3 = .ok (.istore 5, 2) := by decide +kernel
theorem dX5_amount_5 : decode cX5_amount 5 = .ok (.iload 5, 2) := by decide +kernel
theorem dX5_amount_7 : decode cX5_amount 7 = .ok (.aload_n 0, 1) := by decide +kernel
theorem dX5_amount_8 : decode cX5_amount 8 = .ok (.getfield 49, 3) := by decide +kernel
theorem dX5_amount_11 : decode cX5_amount 11 = .ok (.if_icmp .ge 37, 3) := by decide +kernel
theorem dX5_amount_14 : decode cX5_amount 14 = .ok (.lload_n 3, 1) := by decide +kernel
theorem dX5_amount_15 : decode cX5_amount 15 = .ok (.iload_n 2, 1) := by decide +kernel
theorem dX5_amount_16 : decode cX5_amount 16 = .ok (.iload 5, 2) := by decide +kernel
theorem dX5_amount_18 : decode cX5_amount 18 = .ok (.invokestatic 95, 3) := by decide +kernel
theorem dX5_amount_21 : decode cX5_amount 21 = .ok (.ifCond .eq 18, 3) := by decide +kernel
theorem dX5_amount_24 : decode cX5_amount 24 = .ok (.aload_n 0, 1) := by decide +kernel
theorem dX5_amount_25 : decode cX5_amount 25 = .ok (.getfield 17, 3) := by decide +kernel
theorem dX5_amount_28 : decode cX5_amount 28 = .ok (.bipush 24, 2) := by decide +kernel
theorem dX5_amount_30 : decode cX5_amount 30 = .ok (.iload_n 1, 1) := by decide +kernel
theorem dX5_amount_31 : decode cX5_amount 31 = .ok (.imul, 1) := by decide +kernel
theorem dX5_amount_32 : decode cX5_amount 32 = .ok (.iload 5, 2) := by decide +kernel
theorem dX5_amount_34 : decode cX5_amount 34 = .ok (.iadd, 1) := by decide +kernel
theorem dX5_amount_35 : decode cX5_amount 35 = .ok (.laload, 1) := by decide +kernel
theorem dX5_amount_36 : decode cX5_amount 36 = .ok (.goto 4, 3) := by decide +kernel
theorem dX5_amount_39 : decode cX5_amount 39 = .ok (.lconst 0, 1) := by decide +kernel
theorem dX5_amount_40 : decode cX5_amount 40 = .ok (.ladd, 1) := by decide +kernel
theorem dX5_amount_41 : decode cX5_amount 41 = .ok (.lstore_n 3, 1) := by decide +kernel
theorem dX5_amount_42 : decode cX5_amount 42 = .ok (.iinc 5 1, 3) := by decide +kernel
theorem dX5_amount_45 : decode cX5_amount 45 = .ok (.goto (-40), 3) := by decide +kernel
theorem dX5_amount_48 : decode cX5_amount 48 = .ok (.lload_n 3, 1) := by decide +kernel
theorem dX5_amount_49 : decode cX5_amount 49 = .ok (.lreturn, 1) := by decide +kernel
theorem dX5_hoursIn_0 : decode cX5_hoursIn 0 = .ok (.lconst 0, 1) := by decide +kernel
theorem dX5_hoursIn_1 : decode cX5_hoursIn 1 = .ok (.lstore_n 3, 1) := by decide +kernel
theorem dX5_hoursIn_2 : decode cX5_hoursIn 2 = .ok (.iconst 0, 1) := by decide +kernel
theorem dX5_hoursIn_3 : decode cX5_hoursIn 3 = .ok (.istore 5, 2) := by decide +kernel
theorem dX5_hoursIn_5 : decode cX5_hoursIn 5 = .ok (.iload 5, 2) := by decide +kernel
theorem dX5_hoursIn_7 : decode cX5_hoursIn 7 = .ok (.aload_n 0, 1) := by decide +kernel
theorem dX5_hoursIn_8 : decode cX5_hoursIn 8 = .ok (.getfield 49, 3) := by decide +kernel
theorem dX5_hoursIn_11 : decode cX5_hoursIn 11 = .ok (.if_icmp .ge 37, 3) := by decide +kernel
theorem dX5_hoursIn_14 : decode cX5_hoursIn 14 = .ok (.lload_n 3, 1) := by decide +kernel
theorem dX5_hoursIn_15 : decode cX5_hoursIn 15 = .ok (.iload_n 2, 1) := by decide +kernel
theorem dX5_hoursIn_16 : decode cX5_hoursIn 16 = .ok (.iload 5, 2) := by decide +kernel
theorem dX5_hoursIn_18 : decode cX5_hoursIn 18 = .ok (.invokestatic 95, 3) := by decide +kernel
theorem dX5_hoursIn_21 : decode cX5_hoursIn 21 = .ok (.ifCond .eq 18, 3) := by decide +kernel
theorem dX5_hoursIn_24 : decode cX5_hoursIn 24 = .ok (.aload_n 0, 1) := by decide +kernel
theorem dX5_hoursIn_25 : decode cX5_hoursIn 25 = .ok (.getfield 20, 3) := by decide +kernel
theorem dX5_hoursIn_28 : decode cX5_hoursIn 28 = .ok (.bipush 24, 2) := by decide +kernel
theorem dX5_hoursIn_30 : decode cX5_hoursIn 30 = .ok (.iload_n 1, 1) := by decide +kernel
theorem dX5_hoursIn_31 : decode cX5_hoursIn 31 = .ok (.imul, 1) := by decide +kernel
theorem dX5_hoursIn_32 : decode cX5_hoursIn 32 = .ok (.iload 5, 2) := by decide +kernel
theorem dX5_hoursIn_34 : decode cX5_hoursIn 34 = .ok (.iadd, 1) := by decide +kernel
theorem dX5_hoursIn_35 : decode cX5_hoursIn 35 = .ok (.laload, 1) := by decide +kernel
theorem dX5_hoursIn_36 : decode cX5_hoursIn 36 = .ok (.goto 4, 3) := by decide +kernel
theorem dX5_hoursIn_39 : decode cX5_hoursIn 39 = .ok (.lconst 0, 1) := by decide +kernel
theorem dX5_hoursIn_40 : decode cX5_hoursIn 40 = .ok (.ladd, 1) := by decide +kernel
theorem dX5_hoursIn_41 : decode cX5_hoursIn 41 = .ok (.lstore_n 3, 1) := by decide +kernel
theorem dX5_hoursIn_42 : decode cX5_hoursIn 42 = .ok (.iinc 5 1, 3) := by decide +kernel
theorem dX5_hoursIn_45 : decode cX5_hoursIn 45 = .ok (.goto (-40), 3) := by decide +kernel
theorem dX5_hoursIn_48 : decode cX5_hoursIn 48 = .ok (.lload_n 3, 1) := by decide +kernel
theorem dX5_hoursIn_49 : decode cX5_hoursIn 49 = .ok (.lreturn, 1) := by decide +kernel
theorem dX5_meets_0 : decode cX5_meets 0 = .ok (.aload_n 0, 1) := by decide +kernel
theorem dX5_meets_1 : decode cX5_meets 1 = .ok (.getfield 30, 3) := by decide +kernel
theorem dX5_meets_4 : decode cX5_meets 4 = .ok (.iload_n 1, 1) := by decide +kernel
theorem dX5_meets_5 : decode cX5_meets 5 = .ok (.baload, 1) := by decide +kernel
theorem dX5_meets_6 : decode cX5_meets 6 = .ok (.ifCond .eq 36, 3) := by decide +kernel
theorem dX5_meets_9 : decode cX5_meets 9 = .ok (.aload_n 0, 1) := by decide +kernel
theorem dX5_meets_10 : decode cX5_meets 10 = .ok (.iload_n 1, 1) := by decide +kernel
theorem dX5_meets_11 : decode cX5_meets 11 = .ok (.iload_n 2, 1) := by decide +kernel
theorem dX5_meets_12 : decode cX5_meets 12 = .ok (.invokevirtual 99, 3) := by decide +kernel
theorem dX5_meets_15 : decode cX5_meets 15 = .ok (.aload_n 0, 1) := by decide +kernel
theorem dX5_meets_16 : decode cX5_meets 16 = .ok (.getfield 36, 3) := by decide +kernel
theorem dX5_meets_19 : decode cX5_meets 19 = .ok (.iload_n 1, 1) := by decide +kernel
theorem dX5_meets_20 : decode cX5_meets 20 = .ok (.laload, 1) := by decide +kernel
theorem dX5_meets_21 : decode cX5_meets 21 = .ok (.lmul, 1) := by decide +kernel
theorem dX5_meets_22 : decode cX5_meets 22 = .ok (.aload_n 0, 1) := by decide +kernel
theorem dX5_meets_23 : decode cX5_meets 23 = .ok (.iload_n 1, 1) := by decide +kernel
theorem dX5_meets_24 : decode cX5_meets 24 = .ok (.aload_n 0, 1) := by decide +kernel
theorem dX5_meets_25 : decode cX5_meets 25 = .ok (.invokevirtual 103, 3) := by decide +kernel
theorem dX5_meets_28 : decode cX5_meets 28 = .ok (.invokevirtual 99, 3) := by decide +kernel
theorem dX5_meets_31 : decode cX5_meets 31 = .ok (.aload_n 0, 1) := by decide +kernel
theorem dX5_meets_32 : decode cX5_meets 32 = .ok (.getfield 33, 3) := by decide +kernel
theorem dX5_meets_35 : decode cX5_meets 35 = .ok (.iload_n 1, 1) := by decide +kernel
theorem dX5_meets_36 : decode cX5_meets 36 = .ok (.laload, 1) := by decide +kernel
theorem dX5_meets_37 : decode cX5_meets 37 = .ok (.lmul, 1) := by decide +kernel
theorem dX5_meets_38 : decode cX5_meets 38 = .ok (.lcmp, 1) := by decide +kernel
theorem dX5_meets_39 : decode cX5_meets 39 = .ok (.ifCond .lt 7, 3) := by decide +kernel
theorem dX5_meets_42 : decode cX5_meets 42 = .ok (.iconst 1, 1) := by decide +kernel
theorem dX5_meets_43 : decode cX5_meets 43 = .ok (.goto 4, 3) := by decide +kernel
theorem dX5_meets_46 : decode cX5_meets 46 = .ok (.iconst 0, 1) := by decide +kernel
theorem dX5_meets_47 : decode cX5_meets 47 = .ok (.ireturn, 1) := by decide +kernel
theorem dX5_stands_0 : decode cX5_stands 0 = .ok (.iconst 0, 1) := by decide +kernel
theorem dX5_stands_1 : decode cX5_stands 1 = .ok (.istore_n 2, 1) := by decide +kernel
theorem dX5_stands_2 : decode cX5_stands 2 = .ok (.iload_n 2, 1) := by decide +kernel
theorem dX5_stands_3 : decode cX5_stands 3 = .ok (.aload_n 0, 1) := by decide +kernel
theorem dX5_stands_4 : decode cX5_stands 4 = .ok (.getfield 49, 3) := by decide +kernel
theorem dX5_stands_7 : decode cX5_stands 7 = .ok (.if_icmp .ge 92, 3) := by decide +kernel
theorem dX5_stands_10 : decode cX5_stands 10 = .ok (.aload_n 0, 1) := by decide +kernel
theorem dX5_stands_11 : decode cX5_stands 11 = .ok (.getfield 13, 3) := by decide +kernel
theorem dX5_stands_14 : decode cX5_stands 14 = .ok (.iload_n 2, 1) := by decide +kernel
theorem dX5_stands_15 : decode cX5_stands 15 = .ok (.iaload, 1) := by decide +kernel
theorem dX5_stands_16 : decode cX5_stands 16 = .ok (.iconst 1, 1) := by decide +kernel
theorem dX5_stands_17 : decode cX5_stands 17 = .ok (.if_icmp .ne 11, 3) := by decide +kernel
theorem dX5_stands_20 : decode cX5_stands 20 = .ok (.iload_n 1, 1) := by decide +kernel
theorem dX5_stands_21 : decode cX5_stands 21 = .ok (.iload_n 2, 1) := by decide +kernel
theorem dX5_stands_22 : decode cX5_stands 22 = .ok (.invokestatic 95, 3) := by decide +kernel
theorem dX5_stands_25 : decode cX5_stands 25 = .ok (.ifCond .eq 21, 3) := by decide +kernel
theorem dX5_stands_28 : decode cX5_stands 28 = .ok (.aload_n 0, 1) := by decide +kernel
theorem dX5_stands_29 : decode cX5_stands 29 = .ok (.getfield 13, 3) := by decide +kernel
theorem dX5_stands_32 : decode cX5_stands 32 = .ok (.iload_n 2, 1) := by decide +kernel
theorem dX5_stands_33 : decode cX5_stands 33 = .ok (.iaload, 1) := by decide +kernel
theorem dX5_stands_34 : decode cX5_stands 34 = .ok (.iconst 2, 1) := by decide +kernel
theorem dX5_stands_35 : decode cX5_stands 35 = .ok (.if_icmp .ne 13, 3) := by decide +kernel
theorem dX5_stands_38 : decode cX5_stands 38 = .ok (.iload_n 1, 1) := by decide +kernel
theorem dX5_stands_39 : decode cX5_stands 39 = .ok (.iload_n 2, 1) := by decide +kernel
theorem dX5_stands_40 : decode cX5_stands 40 = .ok (.invokestatic 95, 3) := by decide +kernel
theorem dX5_stands_43 : decode cX5_stands 43 = .ok (.ifCond .eq 5, 3) := by decide +kernel
theorem dX5_stands_46 : decode cX5_stands 46 = .ok (.iconst 0, 1) := by decide +kernel
theorem dX5_stands_47 : decode cX5_stands 47 = .ok (.ireturn, 1) := by decide +kernel
theorem dX5_stands_48 : decode cX5_stands 48 = .ok (.iconst 0, 1) := by decide +kernel
theorem dX5_stands_49 : decode cX5_stands 49 = .ok (.istore_n 3, 1) := by decide +kernel
theorem dX5_stands_50 : decode cX5_stands 50 = .ok (.iload_n 3, 1) := by decide +kernel
theorem dX5_stands_51 : decode cX5_stands 51 = .ok (.iload_n 2, 1) := by decide +kernel
theorem dX5_stands_52 : decode cX5_stands 52 = .ok (.if_icmp .ge 41, 3) := by decide +kernel
theorem dX5_stands_55 : decode cX5_stands 55 = .ok (.iload_n 1, 1) := by decide +kernel
theorem dX5_stands_56 : decode cX5_stands 56 = .ok (.iload_n 2, 1) := by decide +kernel
theorem dX5_stands_57 : decode cX5_stands 57 = .ok (.invokestatic 95, 3) := by decide +kernel
theorem dX5_stands_60 : decode cX5_stands 60 = .ok (.ifCond .eq 33, 3) := by decide +kernel
theorem dX5_stands_63 : decode cX5_stands 63 = .ok (.iload_n 1, 1) := by decide +kernel
theorem dX5_stands_64 : decode cX5_stands 64 = .ok (.iload_n 3, 1) := by decide +kernel
theorem dX5_stands_65 : decode cX5_stands 65 = .ok (.invokestatic 95, 3) := by decide +kernel
theorem dX5_stands_68 : decode cX5_stands 68 = .ok (.ifCond .eq 19, 3) := by decide +kernel
theorem dX5_stands_71 : decode cX5_stands 71 = .ok (.aload_n 0, 1) := by decide +kernel
theorem dX5_stands_72 : decode cX5_stands 72 = .ok (.getfield 26, 3) := by decide +kernel
theorem dX5_stands_75 : decode cX5_stands 75 = .ok (.bipush 24, 2) := by decide +kernel
theorem dX5_stands_77 : decode cX5_stands 77 = .ok (.iload_n 2, 1) := by decide +kernel
theorem dX5_stands_78 : decode cX5_stands 78 = .ok (.imul, 1) := by decide +kernel
theorem dX5_stands_79 : decode cX5_stands 79 = .ok (.iload_n 3, 1) := by decide +kernel
theorem dX5_stands_80 : decode cX5_stands 80 = .ok (.iadd, 1) := by decide +kernel
theorem dX5_stands_81 : decode cX5_stands 81 = .ok (.baload, 1) := by decide +kernel
theorem dX5_stands_82 : decode cX5_stands 82 = .ok (.ifCond .eq 5, 3) := by decide +kernel
theorem dX5_stands_85 : decode cX5_stands 85 = .ok (.iconst 0, 1) := by decide +kernel
theorem dX5_stands_86 : decode cX5_stands 86 = .ok (.ireturn, 1) := by decide +kernel
theorem dX5_stands_87 : decode cX5_stands 87 = .ok (.iinc 3 1, 3) := by decide +kernel
theorem dX5_stands_90 : decode cX5_stands 90 = .ok (.goto (-40), 3) := by decide +kernel
theorem dX5_stands_93 : decode cX5_stands 93 = .ok (.iinc 2 1, 3) := by decide +kernel
theorem dX5_stands_96 : decode cX5_stands 96 = .ok (.goto (-94), 3) := by decide +kernel
theorem dX5_stands_99 : decode cX5_stands 99 = .ok (.aload_n 0, 1) := by decide +kernel
theorem dX5_stands_100 : decode cX5_stands 100 = .ok (.iload_n 1, 1) := by decide +kernel
theorem dX5_stands_101 : decode cX5_stands 101 = .ok (.invokevirtual 107, 3) := by decide +kernel
theorem dX5_stands_104 : decode cX5_stands 104 = .ok (.aload_n 0, 1) := by decide +kernel
theorem dX5_stands_105 : decode cX5_stands 105 = .ok (.getfield 90, 3) := by decide +kernel
theorem dX5_stands_108 : decode cX5_stands 108 = .ok (.if_icmp .ge 5, 3) := by decide +kernel
theorem dX5_stands_111 : decode cX5_stands 111 = .ok (.iconst 0, 1) := by decide +kernel
theorem dX5_stands_112 : decode cX5_stands 112 = .ok (.ireturn, 1) := by decide +kernel
theorem dX5_stands_113 : decode cX5_stands 113 = .ok (.iconst 0, 1) := by decide +kernel
theorem dX5_stands_114 : decode cX5_stands 114 = .ok (.istore_n 2, 1) := by decide +kernel
theorem dX5_stands_115 : decode cX5_stands 115 = .ok (.iload_n 2, 1) := by decide +kernel
theorem dX5_stands_116 : decode cX5_stands 116 = .ok (.bipush 8, 2) := by decide +kernel
theorem dX5_stands_118 : decode cX5_stands 118 = .ok (.if_icmp .ge 20, 3) := by decide +kernel
theorem dX5_stands_121 : decode cX5_stands 121 = .ok (.aload_n 0, 1) := by decide +kernel
theorem dX5_stands_122 : decode cX5_stands 122 = .ok (.iload_n 2, 1) := by decide +kernel
theorem dX5_stands_123 : decode cX5_stands 123 = .ok (.iload_n 1, 1) := by decide +kernel
theorem dX5_stands_124 : decode cX5_stands 124 = .ok (.invokevirtual 111, 3) := by decide +kernel
theorem dX5_stands_127 : decode cX5_stands 127 = .ok (.ifCond .ne 5, 3) := by decide +kernel
theorem dX5_stands_130 : decode cX5_stands 130 = .ok (.iconst 0, 1) := by decide +kernel
theorem dX5_stands_131 : decode cX5_stands 131 = .ok (.ireturn, 1) := by decide +kernel
theorem dX5_stands_132 : decode cX5_stands 132 = .ok (.iinc 2 1, 3) := by decide +kernel
theorem dX5_stands_135 : decode cX5_stands 135 = .ok (.goto (-20), 3) := by decide +kernel
theorem dX5_stands_138 : decode cX5_stands 138 = .ok (.iconst 0, 1) := by decide +kernel
theorem dX5_stands_139 : decode cX5_stands 139 = .ok (.istore_n 2, 1) := by decide +kernel
theorem dX5_stands_140 : decode cX5_stands 140 = .ok (.iload_n 2, 1) := by decide +kernel
theorem dX5_stands_141 : decode cX5_stands 141 = .ok (.iconst 4, 1) := by decide +kernel
theorem dX5_stands_142 : decode cX5_stands 142 = .ok (.if_icmp .ge 47, 3) := by decide +kernel
theorem dX5_stands_145 : decode cX5_stands 145 = .ok (.aload_n 0, 1) := by decide +kernel
theorem dX5_stands_146 : decode cX5_stands 146 = .ok (.getfield 80, 3) := by decide +kernel
theorem dX5_stands_149 : decode cX5_stands 149 = .ok (.ifCond .eq 40, 3) := by decide +kernel
theorem dX5_stands_152 : decode cX5_stands 152 = .ok (.aload_n 0, 1) := by decide +kernel
theorem dX5_stands_153 : decode cX5_stands 153 = .ok (.iload_n 2, 1) := by decide +kernel
theorem dX5_stands_154 : decode cX5_stands 154 = .ok (.iload_n 1, 1) := by decide +kernel
theorem dX5_stands_155 : decode cX5_stands 155 = .ok (.invokevirtual 114, 3) := by decide +kernel
theorem dX5_stands_158 : decode cX5_stands 158 = .ok (.aload_n 0, 1) := by decide +kernel
theorem dX5_stands_159 : decode cX5_stands 159 = .ok (.getfield 87, 3) := by decide +kernel
theorem dX5_stands_162 : decode cX5_stands 162 = .ok (.lmul, 1) := by decide +kernel
theorem dX5_stands_163 : decode cX5_stands 163 = .ok (.aload_n 0, 1) := by decide +kernel
theorem dX5_stands_164 : decode cX5_stands 164 = .ok (.iload_n 2, 1) := by decide +kernel
theorem dX5_stands_165 : decode cX5_stands 165 = .ok (.aload_n 0, 1) := by decide +kernel
theorem dX5_stands_166 : decode cX5_stands 166 = .ok (.invokevirtual 103, 3) := by decide +kernel
theorem dX5_stands_169 : decode cX5_stands 169 = .ok (.invokevirtual 114, 3) := by decide +kernel
theorem dX5_stands_172 : decode cX5_stands 172 = .ok (.aload_n 0, 1) := by decide +kernel
theorem dX5_stands_173 : decode cX5_stands 173 = .ok (.getfield 84, 3) := by decide +kernel
theorem dX5_stands_176 : decode cX5_stands 176 = .ok (.lmul, 1) := by decide +kernel
theorem dX5_stands_177 : decode cX5_stands 177 = .ok (.lcmp, 1) := by decide +kernel
theorem dX5_stands_178 : decode cX5_stands 178 = .ok (.ifCond .le 5, 3) := by decide +kernel
theorem dX5_stands_181 : decode cX5_stands 181 = .ok (.iconst 0, 1) := by decide +kernel
theorem dX5_stands_182 : decode cX5_stands 182 = .ok (.ireturn, 1) := by decide +kernel
theorem dX5_stands_183 : decode cX5_stands 183 = .ok (.iinc 2 1, 3) := by decide +kernel
theorem dX5_stands_186 : decode cX5_stands 186 = .ok (.goto (-46), 3) := by decide +kernel
theorem dX5_stands_189 : decode cX5_stands 189 = .ok (.iconst 1, 1) := by decide +kernel
theorem dX5_stands_190 : decode cX5_stands 190 = .ok (.ireturn, 1) := by decide +kernel
theorem dX5_borderOf_0 : decode cX5_borderOf 0 = .ok (.lconst 0, 1) := by decide +kernel
theorem dX5_borderOf_1 : decode cX5_borderOf 1 = .ok (.lstore_n 2, 1) := by decide +kernel
theorem dX5_borderOf_2 : decode cX5_borderOf 2 = .ok (.iconst 0, 1) := by decide +kernel
theorem dX5_borderOf_3 : decode cX5_borderOf 3 = .ok (.istore 4, 2) := by decide +kernel
theorem dX5_borderOf_5 : decode cX5_borderOf 5 = .ok (.iload 4, 2) := by decide +kernel
theorem dX5_borderOf_7 : decode cX5_borderOf 7 = .ok (.aload_n 0, 1) := by decide +kernel
theorem dX5_borderOf_8 : decode cX5_borderOf 8 = .ok (.getfield 49, 3) := by decide +kernel
theorem dX5_borderOf_11 : decode cX5_borderOf 11 = .ok (.if_icmp .ge 65, 3) := by decide +kernel
theorem dX5_borderOf_14 : decode cX5_borderOf 14 = .ok (.iconst 0, 1) := by decide +kernel
theorem dX5_borderOf_15 : decode cX5_borderOf 15 = .ok (.istore 5, 2) := by decide +kernel
theorem dX5_borderOf_17 : decode cX5_borderOf 17 = .ok (.iload 5, 2) := by decide +kernel
theorem dX5_borderOf_19 : decode cX5_borderOf 19 = .ok (.aload_n 0, 1) := by decide +kernel
theorem dX5_borderOf_20 : decode cX5_borderOf 20 = .ok (.getfield 49, 3) := by decide +kernel
theorem dX5_borderOf_23 : decode cX5_borderOf 23 = .ok (.if_icmp .ge 47, 3) := by decide +kernel
theorem dX5_borderOf_26 : decode cX5_borderOf 26 = .ok (.iload_n 1, 1) := by decide +kernel
theorem dX5_borderOf_27 : decode cX5_borderOf 27 = .ok (.iload 4, 2) := by decide +kernel
theorem dX5_borderOf_29 : decode cX5_borderOf 29 = .ok (.invokestatic 95, 3) := by decide +kernel
theorem dX5_borderOf_32 : decode cX5_borderOf 32 = .ok (.ifCond .eq 38, 3) := by decide +kernel
theorem dX5_borderOf_35 : decode cX5_borderOf 35 = .ok (.lload_n 2, 1) := by decide +kernel
theorem dX5_borderOf_36 : decode cX5_borderOf 36 = .ok (.iload_n 1, 1) := by decide +kernel
theorem dX5_borderOf_37 : decode cX5_borderOf 37 = .ok (.iload 5, 2) := by decide +kernel
theorem dX5_borderOf_39 : decode cX5_borderOf 39 = .ok (.invokestatic 95, 3) := by decide +kernel
theorem dX5_borderOf_42 : decode cX5_borderOf 42 = .ok (.ifCond .eq 7, 3) := by decide +kernel
theorem dX5_borderOf_45 : decode cX5_borderOf 45 = .ok (.lconst 0, 1) := by decide +kernel
theorem dX5_borderOf_46 : decode cX5_borderOf 46 = .ok (.goto 16, 3) := by decide +kernel
theorem dX5_borderOf_49 : decode cX5_borderOf 49 = .ok (.aload_n 0, 1) := by decide +kernel
theorem dX5_borderOf_50 : decode cX5_borderOf 50 = .ok (.getfield 23, 3) := by decide +kernel
theorem dX5_borderOf_53 : decode cX5_borderOf 53 = .ok (.bipush 24, 2) := by decide +kernel
theorem dX5_borderOf_55 : decode cX5_borderOf 55 = .ok (.iload 4, 2) := by decide +kernel
theorem dX5_borderOf_57 : decode cX5_borderOf 57 = .ok (.imul, 1) := by decide +kernel
theorem dX5_borderOf_58 : decode cX5_borderOf 58 = .ok (.iload 5, 2) := by decide +kernel
theorem dX5_borderOf_60 : decode cX5_borderOf 60 = .ok (.iadd, 1) := by decide +kernel
theorem dX5_borderOf_61 : decode cX5_borderOf 61 = .ok (.laload, 1) := by decide +kernel
theorem dX5_borderOf_62 : decode cX5_borderOf 62 = .ok (.ladd, 1) := by decide +kernel
theorem dX5_borderOf_63 : decode cX5_borderOf 63 = .ok (.lstore_n 2, 1) := by decide +kernel
theorem dX5_borderOf_64 : decode cX5_borderOf 64 = .ok (.iinc 5 1, 3) := by decide +kernel
theorem dX5_borderOf_67 : decode cX5_borderOf 67 = .ok (.goto (-50), 3) := by decide +kernel
theorem dX5_borderOf_70 : decode cX5_borderOf 70 = .ok (.iinc 4 1, 3) := by decide +kernel
theorem dX5_borderOf_73 : decode cX5_borderOf 73 = .ok (.goto (-68), 3) := by decide +kernel
theorem dX5_borderOf_76 : decode cX5_borderOf 76 = .ok (.lload_n 2, 1) := by decide +kernel
theorem dX5_borderOf_77 : decode cX5_borderOf 77 = .ok (.lreturn, 1) := by decide +kernel
theorem dX5_costOf_0 : decode cX5_costOf 0 = .ok (.aload_n 0, 1) := by decide +kernel
theorem dX5_costOf_1 : decode cX5_costOf 1 = .ok (.getfield 74, 3) := by decide +kernel
theorem dX5_costOf_4 : decode cX5_costOf 4 = .ok (.aload_n 0, 1) := by decide +kernel
theorem dX5_costOf_5 : decode cX5_costOf 5 = .ok (.iload_n 1, 1) := by decide +kernel
theorem dX5_costOf_6 : decode cX5_costOf 6 = .ok (.invokevirtual 117, 3) := by decide +kernel
theorem dX5_costOf_9 : decode cX5_costOf 9 = .ok (.lmul, 1) := by decide +kernel
theorem dX5_costOf_10 : decode cX5_costOf 10 = .ok (.lstore_n 2, 1) := by decide +kernel
theorem dX5_costOf_11 : decode cX5_costOf 11 = .ok (.iconst 0, 1) := by decide +kernel
theorem dX5_costOf_12 : decode cX5_costOf 12 = .ok (.istore 4, 2) := by decide +kernel
theorem dX5_costOf_14 : decode cX5_costOf 14 = .ok (.iload 4, 2) := by decide +kernel
theorem dX5_costOf_16 : decode cX5_costOf 16 = .ok (.aload_n 0, 1) := by decide +kernel
theorem dX5_costOf_17 : decode cX5_costOf 17 = .ok (.getfield 49, 3) := by decide +kernel
theorem dX5_costOf_20 : decode cX5_costOf 20 = .ok (.if_icmp .ge 32, 3) := by decide +kernel
theorem dX5_costOf_23 : decode cX5_costOf 23 = .ok (.lload_n 2, 1) := by decide +kernel
theorem dX5_costOf_24 : decode cX5_costOf 24 = .ok (.iload_n 1, 1) := by decide +kernel
theorem dX5_costOf_25 : decode cX5_costOf 25 = .ok (.iload 4, 2) := by decide +kernel
theorem dX5_costOf_27 : decode cX5_costOf 27 = .ok (.invokestatic 95, 3) := by decide +kernel
theorem dX5_costOf_30 : decode cX5_costOf 30 = .ok (.ifCond .eq 13, 3) := by decide +kernel
theorem dX5_costOf_33 : decode cX5_costOf 33 = .ok (.aload_n 0, 1) := by decide +kernel
theorem dX5_costOf_34 : decode cX5_costOf 34 = .ok (.getfield 7, 3) := by decide +kernel
theorem dX5_costOf_37 : decode cX5_costOf 37 = .ok (.iload 4, 2) := by decide +kernel
theorem dX5_costOf_39 : decode cX5_costOf 39 = .ok (.laload, 1) := by decide +kernel
theorem dX5_costOf_40 : decode cX5_costOf 40 = .ok (.goto 4, 3) := by decide +kernel
theorem dX5_costOf_43 : decode cX5_costOf 43 = .ok (.lconst 0, 1) := by decide +kernel
theorem dX5_costOf_44 : decode cX5_costOf 44 = .ok (.ladd, 1) := by decide +kernel
theorem dX5_costOf_45 : decode cX5_costOf 45 = .ok (.lstore_n 2, 1) := by decide +kernel
theorem dX5_costOf_46 : decode cX5_costOf 46 = .ok (.iinc 4 1, 3) := by decide +kernel
theorem dX5_costOf_49 : decode cX5_costOf 49 = .ok (.goto (-35), 3) := by decide +kernel
theorem dX5_costOf_52 : decode cX5_costOf 52 = .ok (.lload_n 2, 1) := by decide +kernel
theorem dX5_costOf_53 : decode cX5_costOf 53 = .ok (.lreturn, 1) := by decide +kernel
theorem dX5_isBefore_0 : decode cX5_isBefore 0 = .ok (.aload_n 0, 1) := by decide +kernel
theorem dX5_isBefore_1 : decode cX5_isBefore 1 = .ok (.iload_n 1, 1) := by decide +kernel
theorem dX5_isBefore_2 : decode cX5_isBefore 2 = .ok (.invokevirtual 107, 3) := by decide +kernel
theorem dX5_isBefore_5 : decode cX5_isBefore 5 = .ok (.istore_n 3, 1) := by decide +kernel
theorem dX5_isBefore_6 : decode cX5_isBefore 6 = .ok (.aload_n 0, 1) := by decide +kernel
theorem dX5_isBefore_7 : decode cX5_isBefore 7 = .ok (.iload_n 2, 1) := by decide +kernel
theorem dX5_isBefore_8 : decode cX5_isBefore 8 = .ok (.invokevirtual 107, 3) := by decide +kernel
theorem dX5_isBefore_11 : decode cX5_isBefore 11 = .ok (.istore 4, 2) := by decide +kernel
theorem dX5_isBefore_13 : decode cX5_isBefore 13 = .ok (.iload_n 3, 1) := by decide +kernel
theorem dX5_isBefore_14 : decode cX5_isBefore 14 = .ok (.iload 4, 2) := by decide +kernel
theorem dX5_isBefore_16 : decode cX5_isBefore 16 = .ok (.if_icmp .eq 15, 3) := by decide +kernel
theorem dX5_isBefore_19 : decode cX5_isBefore 19 = .ok (.iload_n 3, 1) := by decide +kernel
theorem dX5_isBefore_20 : decode cX5_isBefore 20 = .ok (.iload 4, 2) := by decide +kernel
theorem dX5_isBefore_22 : decode cX5_isBefore 22 = .ok (.if_icmp .ge 7, 3) := by decide +kernel
theorem dX5_isBefore_25 : decode cX5_isBefore 25 = .ok (.iconst 1, 1) := by decide +kernel
theorem dX5_isBefore_26 : decode cX5_isBefore 26 = .ok (.goto 4, 3) := by decide +kernel
theorem dX5_isBefore_29 : decode cX5_isBefore 29 = .ok (.iconst 0, 1) := by decide +kernel
theorem dX5_isBefore_30 : decode cX5_isBefore 30 = .ok (.ireturn, 1) := by decide +kernel
theorem dX5_isBefore_31 : decode cX5_isBefore 31 = .ok (.iload_n 1, 1) := by decide +kernel
theorem dX5_isBefore_32 : decode cX5_isBefore 32 = .ok (.iload_n 2, 1) := by decide +kernel
theorem dX5_isBefore_33 : decode cX5_isBefore 33 = .ok (.ixor, 1) := by decide +kernel
theorem dX5_isBefore_34 : decode cX5_isBefore 34 = .ok (.istore 5, 2) := by decide +kernel
theorem dX5_isBefore_36 : decode cX5_isBefore 36 = .ok (.iload_n 1, 1) := by decide +kernel
theorem dX5_isBefore_37 : decode cX5_isBefore 37 = .ok (.iload 5, 2) := by decide +kernel
theorem dX5_isBefore_39 : decode cX5_isBefore 39 = .ok (.iand, 1) := by decide +kernel
theorem dX5_isBefore_40 : decode cX5_isBefore 40 = .ok (.iload 5, 2) := by decide +kernel
theorem dX5_isBefore_42 : decode cX5_isBefore 42 = .ok (.ineg, 1) := by decide +kernel
theorem dX5_isBefore_43 : decode cX5_isBefore 43 = .ok (.iand, 1) := by decide +kernel
theorem dX5_isBefore_44 : decode cX5_isBefore 44 = .ok (.ifCond .eq 7, 3) := by decide +kernel
theorem dX5_isBefore_47 : decode cX5_isBefore 47 = .ok (.iconst 1, 1) := by decide +kernel
theorem dX5_isBefore_48 : decode cX5_isBefore 48 = .ok (.goto 4, 3) := by decide +kernel
theorem dX5_isBefore_51 : decode cX5_isBefore 51 = .ok (.iconst 0, 1) := by decide +kernel
theorem dX5_isBefore_52 : decode cX5_isBefore 52 = .ok (.ireturn, 1) := by decide +kernel
theorem dX5_become_0 : decode cX5_become 0 = .ok (.aload_n 0, 1) := by decide +kernel
theorem dX5_become_1 : decode cX5_become 1 = .ok (.aload_n 0, 1) := by decide +kernel
theorem dX5_become_2 : decode cX5_become 2 = .ok (.getfield 121, 3) := by decide +kernel
theorem dX5_become_5 : decode cX5_become 5 = .ok (.ifCond .eq 10, 3) := by decide +kernel
theorem dX5_become_8 : decode cX5_become 8 = .ok (.aload_n 0, 1) := by decide +kernel
theorem dX5_become_9 : decode cX5_become 9 = .ok (.getfield 124, 3) := by decide +kernel
theorem dX5_become_12 : decode cX5_become 12 = .ok (.goto 4, 3) := by decide +kernel
theorem dX5_become_15 : decode cX5_become 15 = .ok (.iconst 0, 1) := by decide +kernel
theorem dX5_become_16 : decode cX5_become 16 = .ok (.putfield 127, 3) := by decide +kernel
theorem dX5_become_19 : decode cX5_become 19 = .ok (.aload_n 0, 1) := by decide +kernel
theorem dX5_become_20 : decode cX5_become 20 = .ok (.iload_n 1, 1) := by decide +kernel
theorem dX5_become_21 : decode cX5_become 21 = .ok (.putfield 121, 3) := by decide +kernel
theorem dX5_become_24 : decode cX5_become 24 = .ok (.aload_n 0, 1) := by decide +kernel
theorem dX5_become_25 : decode cX5_become 25 = .ok (.iload_n 2, 1) := by decide +kernel
theorem dX5_become_26 : decode cX5_become 26 = .ok (.putfield 124, 3) := by decide +kernel
theorem dX5_become_29 : decode cX5_become 29 = .ok (.aload_n 0, 1) := by decide +kernel
theorem dX5_become_30 : decode cX5_become 30 = .ok (.lload_n 3, 1) := by decide +kernel
theorem dX5_become_31 : decode cX5_become 31 = .ok (.putfield 130, 3) := by decide +kernel
theorem dX5_become_34 : decode cX5_become 34 = .ok (.return_, 1) := by decide +kernel
theorem dX5_run_0 : decode cX5_run 0 = .ok (.aload_n 0, 1) := by decide +kernel
theorem dX5_run_1 : decode cX5_run 1 = .ok (.iconst 1, 1) := by decide +kernel
theorem dX5_run_2 : decode cX5_run 2 = .ok (.putfield 133, 3) := by decide +kernel
theorem dX5_run_5 : decode cX5_run 5 = .ok (.aload_n 0, 1) := by decide +kernel
theorem dX5_run_6 : decode cX5_run 6 = .ok (.iconst 0, 1) := by decide +kernel
theorem dX5_run_7 : decode cX5_run 7 = .ok (.putfield 136, 3) := by decide +kernel
theorem dX5_run_10 : decode cX5_run 10 = .ok (.iconst 0, 1) := by decide +kernel
theorem dX5_run_11 : decode cX5_run 11 = .ok (.istore_n 3, 1) := by decide +kernel
theorem dX5_run_12 : decode cX5_run 12 = .ok (.iload_n 3, 1) := by decide +kernel
theorem dX5_run_13 : decode cX5_run 13 = .ok (.bipush 8, 2) := by decide +kernel
theorem dX5_run_15 : decode cX5_run 15 = .ok (.if_icmp .ge 40, 3) := by decide +kernel
theorem dX5_run_18 : decode cX5_run 18 = .ok (.aload_n 0, 1) := by decide +kernel
theorem dX5_run_19 : decode cX5_run 19 = .ok (.aload_n 0, 1) := by decide +kernel
theorem dX5_run_20 : decode cX5_run 20 = .ok (.iload_n 3, 1) := by decide +kernel
theorem dX5_run_21 : decode cX5_run 21 = .ok (.aload_n 0, 1) := by decide +kernel
theorem dX5_run_22 : decode cX5_run 22 = .ok (.invokevirtual 139, 3) := by decide +kernel
theorem dX5_run_25 : decode cX5_run 25 = .ok (.invokevirtual 111, 3) := by decide +kernel
theorem dX5_run_28 : decode cX5_run 28 = .ok (.ifCond .eq 10, 3) := by decide +kernel
theorem dX5_run_31 : decode cX5_run 31 = .ok (.aload_n 0, 1) := by decide +kernel
theorem dX5_run_32 : decode cX5_run 32 = .ok (.getfield 136, 3) := by decide +kernel
theorem dX5_run_35 : decode cX5_run 35 = .ok (.goto 11, 3) := by decide +kernel
theorem dX5_run_38 : decode cX5_run 38 = .ok (.aload_n 0, 1) := by decide +kernel
theorem dX5_run_39 : decode cX5_run 39 = .ok (.getfield 136, 3) := by decide +kernel
theorem dX5_run_42 : decode cX5_run 42 = .ok (.iconst 1, 1) := by decide +kernel
theorem dX5_run_43 : decode cX5_run 43 = .ok (.iload_n 3, 1) := by decide +kernel
theorem dX5_run_44 : decode cX5_run 44 = .ok (.ishl, 1) := by decide +kernel
theorem dX5_run_45 : decode cX5_run 45 = .ok (.ior, 1) := by decide +kernel
theorem dX5_run_46 : decode cX5_run 46 = .ok (.putfield 136, 3) := by decide +kernel
theorem dX5_run_49 : decode cX5_run 49 = .ok (.iinc 3 1, 3) := by decide +kernel
theorem dX5_run_52 : decode cX5_run 52 = .ok (.goto (-40), 3) := by decide +kernel
theorem dX5_run_55 : decode cX5_run 55 = .ok (.iconst 0, 1) := by decide +kernel
theorem dX5_run_56 : decode cX5_run 56 = .ok (.istore_n 3, 1) := by decide +kernel
theorem dX5_run_57 : decode cX5_run 57 = .ok (.iconst 0, 1) := by decide +kernel
theorem dX5_run_58 : decode cX5_run 58 = .ok (.istore 4, 2) := by decide +kernel
theorem dX5_run_60 : decode cX5_run 60 = .ok (.lconst 0, 1) := by decide +kernel
theorem dX5_run_61 : decode cX5_run 61 = .ok (.lstore 5, 2) := by decide +kernel
theorem dX5_run_63 : decode cX5_run 63 = .ok (.iconst 0, 1) := by decide +kernel
theorem dX5_run_64 : decode cX5_run 64 = .ok (.istore 7, 2) := by decide +kernel
theorem dX5_run_66 : decode cX5_run 66 = .ok (.iload 7, 2) := by decide +kernel
theorem dX5_run_68 : decode cX5_run 68 = .ok (.aload_n 0, 1) := by decide +kernel
theorem dX5_run_69 : decode cX5_run 69 = .ok (.getfield 49, 3) := by decide +kernel
theorem dX5_run_72 : decode cX5_run 72 = .ok (.if_icmp .ge 79, 3) := by decide +kernel
theorem dX5_run_75 : decode cX5_run 75 = .ok (.iload_n 3, 1) := by decide +kernel
theorem dX5_run_76 : decode cX5_run 76 = .ok (.aload_n 0, 1) := by decide +kernel
theorem dX5_run_77 : decode cX5_run 77 = .ok (.getfield 13, 3) := by decide +kernel
theorem dX5_run_80 : decode cX5_run 80 = .ok (.iload 7, 2) := by decide +kernel
theorem dX5_run_82 : decode cX5_run 82 = .ok (.iaload, 1) := by decide +kernel
theorem dX5_run_83 : decode cX5_run 83 = .ok (.ifCond .ne 7, 3) := by decide +kernel
theorem dX5_run_86 : decode cX5_run 86 = .ok (.iconst 1, 1) := by decide +kernel
theorem dX5_run_87 : decode cX5_run 87 = .ok (.goto 4, 3) := by decide +kernel
theorem dX5_run_90 : decode cX5_run 90 = .ok (.iconst 0, 1) := by decide +kernel
theorem dX5_run_91 : decode cX5_run 91 = .ok (.iadd, 1) := by decide +kernel
theorem dX5_run_92 : decode cX5_run 92 = .ok (.istore_n 3, 1) := by decide +kernel
theorem dX5_run_93 : decode cX5_run 93 = .ok (.aload_n 0, 1) := by decide +kernel
theorem dX5_run_94 : decode cX5_run 94 = .ok (.getfield 13, 3) := by decide +kernel
theorem dX5_run_97 : decode cX5_run 97 = .ok (.iload 7, 2) := by decide +kernel
theorem dX5_run_99 : decode cX5_run 99 = .ok (.iaload, 1) := by decide +kernel
theorem dX5_run_100 : decode cX5_run 100 = .ok (.iconst 1, 1) := by decide +kernel
theorem dX5_run_101 : decode cX5_run 101 = .ok (.if_icmp .ne 13, 3) := by decide +kernel
theorem dX5_run_104 : decode cX5_run 104 = .ok (.iload 4, 2) := by decide +kernel
theorem dX5_run_106 : decode cX5_run 106 = .ok (.iconst 1, 1) := by decide +kernel
theorem dX5_run_107 : decode cX5_run 107 = .ok (.iload 7, 2) := by decide +kernel
theorem dX5_run_109 : decode cX5_run 109 = .ok (.ishl, 1) := by decide +kernel
theorem dX5_run_110 : decode cX5_run 110 = .ok (.ior, 1) := by decide +kernel
theorem dX5_run_111 : decode cX5_run 111 = .ok (.goto 5, 3) := by decide +kernel
theorem dX5_run_114 : decode cX5_run 114 = .ok (.iload 4, 2) := by decide +kernel
theorem dX5_run_116 : decode cX5_run 116 = .ok (.istore 4, 2) := by decide +kernel
theorem dX5_run_118 : decode cX5_run 118 = .ok (.lload 5, 2) := by decide +kernel
theorem dX5_run_120 : decode cX5_run 120 = .ok (.aload_n 0, 1) := by decide +kernel
theorem dX5_run_121 : decode cX5_run 121 = .ok (.getfield 13, 3) := by decide +kernel
theorem dX5_run_124 : decode cX5_run 124 = .ok (.iload 7, 2) := by decide +kernel
theorem dX5_run_126 : decode cX5_run 126 = .ok (.iaload, 1) := by decide +kernel
theorem dX5_run_127 : decode cX5_run 127 = .ok (.iconst 1, 1) := by decide +kernel
theorem dX5_run_128 : decode cX5_run 128 = .ok (.if_icmp .ne 13, 3) := by decide +kernel
theorem dX5_run_131 : decode cX5_run 131 = .ok (.aload_n 0, 1) := by decide +kernel
theorem dX5_run_132 : decode cX5_run 132 = .ok (.getfield 7, 3) := by decide +kernel
theorem dX5_run_135 : decode cX5_run 135 = .ok (.iload 7, 2) := by decide +kernel
theorem dX5_run_137 : decode cX5_run 137 = .ok (.laload, 1) := by decide +kernel
theorem dX5_run_138 : decode cX5_run 138 = .ok (.goto 4, 3) := by decide +kernel
theorem dX5_run_141 : decode cX5_run 141 = .ok (.lconst 0, 1) := by decide +kernel
theorem dX5_run_142 : decode cX5_run 142 = .ok (.ladd, 1) := by decide +kernel
theorem dX5_run_143 : decode cX5_run 143 = .ok (.lstore 5, 2) := by decide +kernel
theorem dX5_run_145 : decode cX5_run 145 = .ok (.iinc 7 1, 3) := by decide +kernel
theorem dX5_run_148 : decode cX5_run 148 = .ok (.goto (-82), 3) := by decide +kernel
theorem dX5_run_151 : decode cX5_run 151 = .ok (.iload_n 3, 1) := by decide +kernel
theorem dX5_run_152 : decode cX5_run 152 = .ok (.bipush 12, 2) := by decide +kernel
theorem dX5_run_154 : decode cX5_run 154 = .ok (.if_icmp .gt 11, 3) := by decide +kernel
theorem dX5_run_157 : decode cX5_run 157 = .ok (.lconst 1, 1) := by decide +kernel
theorem dX5_run_158 : decode cX5_run 158 = .ok (.iload_n 3, 1) := by decide +kernel
theorem dX5_run_159 : decode cX5_run 159 = .ok (.lshl, 1) := by decide +kernel
theorem dX5_run_160 : decode cX5_run 160 = .ok (.lload_n 1, 1) := by decide +kernel
theorem dX5_run_161 : decode cX5_run 161 = .ok (.lcmp, 1) := by decide +kernel
theorem dX5_run_162 : decode cX5_run 162 = .ok (.ifCond .le 23, 3) := by decide +kernel
theorem dX5_run_165 : decode cX5_run 165 = .ok (.aload_n 0, 1) := by decide +kernel
theorem dX5_run_166 : decode cX5_run 166 = .ok (.iconst 0, 1) := by decide +kernel
theorem dX5_run_167 : decode cX5_run 167 = .ok (.iconst 0, 1) := by decide +kernel
theorem dX5_run_168 : decode cX5_run 168 = .ok (.lconst 0, 1) := by decide +kernel
theorem dX5_run_169 : decode cX5_run 169 = .ok (.invokevirtual 142, 3) := by decide +kernel
theorem dX5_run_172 : decode cX5_run 172 = .ok (.aload_n 0, 1) := by decide +kernel
theorem dX5_run_173 : decode cX5_run 173 = .ok (.lload 5, 2) := by decide +kernel
theorem dX5_run_175 : decode cX5_run 175 = .ok (.putfield 146, 3) := by decide +kernel
theorem dX5_run_178 : decode cX5_run 178 = .ok (.aload_n 0, 1) := by decide +kernel
theorem dX5_run_179 : decode cX5_run 179 = .ok (.iconst 2, 1) := by decide +kernel
theorem dX5_run_180 : decode cX5_run 180 = .ok (.putfield 149, 3) := by decide +kernel
theorem dX5_run_183 : decode cX5_run 183 = .ok (.iconst 2, 1) := by decide +kernel
theorem dX5_run_184 : decode cX5_run 184 = .ok (.ireturn, 1) := by decide +kernel
theorem dX5_run_185 : decode cX5_run 185 = .ok (.iconst 0, 1) := by decide +kernel
theorem dX5_run_186 : decode cX5_run 186 = .ok (.istore 7, 2) := by decide +kernel
theorem dX5_run_188 : decode cX5_run 188 = .ok (.iconst 0, 1) := by decide +kernel
theorem dX5_run_189 : decode cX5_run 189 = .ok (.istore 8, 2) := by decide +kernel
theorem dX5_run_191 : decode cX5_run 191 = .ok (.lconst 0, 1) := by decide +kernel
theorem dX5_run_192 : decode cX5_run 192 = .ok (.lstore 9, 2) := by decide +kernel
theorem dX5_run_194 : decode cX5_run 194 = .ok (.iconst 0, 1) := by decide +kernel
theorem dX5_run_195 : decode cX5_run 195 = .ok (.istore 11, 2) := by decide +kernel
theorem dX5_run_197 : decode cX5_run 197 = .ok (.iload 11, 2) := by decide +kernel
theorem dX5_run_199 : decode cX5_run 199 = .ok (.iconst 1, 1) := by decide +kernel
theorem dX5_run_200 : decode cX5_run 200 = .ok (.iload_n 3, 1) := by decide +kernel
theorem dX5_run_201 : decode cX5_run 201 = .ok (.ishl, 1) := by decide +kernel
theorem dX5_run_202 : decode cX5_run 202 = .ok (.if_icmp .ge 131, 3) := by decide +kernel
theorem dX5_run_205 : decode cX5_run 205 = .ok (.iload 4, 2) := by decide +kernel
theorem dX5_run_207 : decode cX5_run 207 = .ok (.istore 12, 2) := by decide +kernel
theorem dX5_run_209 : decode cX5_run 209 = .ok (.iconst 0, 1) := by decide +kernel
theorem dX5_run_210 : decode cX5_run 210 = .ok (.istore 13, 2) := by decide +kernel
theorem dX5_run_212 : decode cX5_run 212 = .ok (.iconst 0, 1) := by decide +kernel
theorem dX5_run_213 : decode cX5_run 213 = .ok (.istore 14, 2) := by decide +kernel
theorem dX5_run_215 : decode cX5_run 215 = .ok (.iload 14, 2) := by decide +kernel
theorem dX5_run_217 : decode cX5_run 217 = .ok (.aload_n 0, 1) := by decide +kernel
theorem dX5_run_218 : decode cX5_run 218 = .ok (.getfield 49, 3) := by decide +kernel
theorem dX5_run_221 : decode cX5_run 221 = .ok (.if_icmp .ge 46, 3) := by decide +kernel
theorem dX5_run_224 : decode cX5_run 224 = .ok (.aload_n 0, 1) := by decide +kernel
theorem dX5_run_225 : decode cX5_run 225 = .ok (.getfield 13, 3) := by decide +kernel
theorem dX5_run_228 : decode cX5_run 228 = .ok (.iload 14, 2) := by decide +kernel
theorem dX5_run_230 : decode cX5_run 230 = .ok (.iaload, 1) := by decide +kernel
theorem dX5_run_231 : decode cX5_run 231 = .ok (.ifCond .ne 30, 3) := by decide +kernel
theorem dX5_run_234 : decode cX5_run 234 = .ok (.iload 11, 2) := by decide +kernel
theorem dX5_run_236 : decode cX5_run 236 = .ok (.iload 13, 2) := by decide +kernel
theorem dX5_run_238 : decode cX5_run 238 = .ok (.invokestatic 95, 3) := by decide +kernel
theorem dX5_run_241 : decode cX5_run 241 = .ok (.ifCond .eq 13, 3) := by decide +kernel
theorem dX5_run_244 : decode cX5_run 244 = .ok (.iload 12, 2) := by decide +kernel
theorem dX5_run_246 : decode cX5_run 246 = .ok (.iconst 1, 1) := by decide +kernel
theorem dX5_run_247 : decode cX5_run 247 = .ok (.iload 14, 2) := by decide +kernel
theorem dX5_run_249 : decode cX5_run 249 = .ok (.ishl, 1) := by decide +kernel
theorem dX5_run_250 : decode cX5_run 250 = .ok (.ior, 1) := by decide +kernel
theorem dX5_run_251 : decode cX5_run 251 = .ok (.goto 5, 3) := by decide +kernel
theorem dX5_run_254 : decode cX5_run 254 = .ok (.iload 12, 2) := by decide +kernel
theorem dX5_run_256 : decode cX5_run 256 = .ok (.istore 12, 2) := by decide +kernel
theorem dX5_run_258 : decode cX5_run 258 = .ok (.iinc 13 1, 3) := by decide +kernel
theorem dX5_run_261 : decode cX5_run 261 = .ok (.iinc 14 1, 3) := by decide +kernel
theorem dX5_run_264 : decode cX5_run 264 = .ok (.goto (-49), 3) := by decide +kernel
theorem dX5_run_267 : decode cX5_run 267 = .ok (.aload_n 0, 1) := by decide +kernel
theorem dX5_run_268 : decode cX5_run 268 = .ok (.iload 12, 2) := by decide +kernel
theorem dX5_run_270 : decode cX5_run 270 = .ok (.invokevirtual 152, 3) := by decide +kernel
theorem dX5_run_273 : decode cX5_run 273 = .ok (.lstore 14, 2) := by decide +kernel
theorem dX5_run_275 : decode cX5_run 275 = .ok (.iload 7, 2) := by decide +kernel
theorem dX5_run_277 : decode cX5_run 277 = .ok (.ifCond .eq 30, 3) := by decide +kernel
theorem dX5_run_280 : decode cX5_run 280 = .ok (.lload 14, 2) := by decide +kernel
theorem dX5_run_282 : decode cX5_run 282 = .ok (.lload 9, 2) := by decide +kernel
theorem dX5_run_284 : decode cX5_run 284 = .ok (.lcmp, 1) := by decide +kernel
theorem dX5_run_285 : decode cX5_run 285 = .ok (.ifCond .lt 22, 3) := by decide +kernel
theorem dX5_run_288 : decode cX5_run 288 = .ok (.lload 14, 2) := by decide +kernel
theorem dX5_run_290 : decode cX5_run 290 = .ok (.lload 9, 2) := by decide +kernel
theorem dX5_run_292 : decode cX5_run 292 = .ok (.lcmp, 1) := by decide +kernel
theorem dX5_run_293 : decode cX5_run 293 = .ok (.ifCond .ne 34, 3) := by decide +kernel
theorem dX5_run_296 : decode cX5_run 296 = .ok (.aload_n 0, 1) := by decide +kernel
theorem dX5_run_297 : decode cX5_run 297 = .ok (.iload 12, 2) := by decide +kernel
theorem dX5_run_299 : decode cX5_run 299 = .ok (.iload 8, 2) := by decide +kernel
theorem dX5_run_301 : decode cX5_run 301 = .ok (.invokevirtual 155, 3) := by decide +kernel
theorem dX5_run_304 : decode cX5_run 304 = .ok (.ifCond .eq 23, 3) := by decide +kernel
theorem dX5_run_307 : decode cX5_run 307 = .ok (.aload_n 0, 1) := by decide +kernel
theorem dX5_run_308 : decode cX5_run 308 = .ok (.iload 12, 2) := by decide +kernel
theorem dX5_run_310 : decode cX5_run 310 = .ok (.invokevirtual 158, 3) := by decide +kernel
theorem dX5_run_313 : decode cX5_run 313 = .ok (.ifCond .eq 14, 3) := by decide +kernel
theorem dX5_run_316 : decode cX5_run 316 = .ok (.iconst 1, 1) := by decide +kernel
theorem dX5_run_317 : decode cX5_run 317 = .ok (.istore 7, 2) := by decide +kernel
theorem dX5_run_319 : decode cX5_run 319 = .ok (.iload 12, 2) := by decide +kernel
theorem dX5_run_321 : decode cX5_run 321 = .ok (.istore 8, 2) := by decide +kernel
theorem dX5_run_323 : decode cX5_run 323 = .ok (.lload 14, 2) := by decide +kernel
theorem dX5_run_325 : decode cX5_run 325 = .ok (.lstore 9, 2) := by decide +kernel
theorem dX5_run_327 : decode cX5_run 327 = .ok (.iinc 11 1, 3) := by decide +kernel
theorem dX5_run_330 : decode cX5_run 330 = .ok (.goto (-133), 3) := by decide +kernel
theorem dX5_run_333 : decode cX5_run 333 = .ok (.aload_n 0, 1) := by decide +kernel
theorem dX5_run_334 : decode cX5_run 334 = .ok (.iload 7, 2) := by decide +kernel
theorem dX5_run_336 : decode cX5_run 336 = .ok (.iload 8, 2) := by decide +kernel
theorem dX5_run_338 : decode cX5_run 338 = .ok (.lload 9, 2) := by decide +kernel
theorem dX5_run_340 : decode cX5_run 340 = .ok (.invokevirtual 142, 3) := by decide +kernel
theorem dX5_run_343 : decode cX5_run 343 = .ok (.aload_n 0, 1) := by decide +kernel
theorem dX5_run_344 : decode cX5_run 344 = .ok (.iload 7, 2) := by decide +kernel
theorem dX5_run_346 : decode cX5_run 346 = .ok (.ifCond .eq 8, 3) := by decide +kernel
theorem dX5_run_349 : decode cX5_run 349 = .ok (.lload 9, 2) := by decide +kernel
theorem dX5_run_351 : decode cX5_run 351 = .ok (.goto 6, 3) := by decide +kernel
theorem dX5_run_354 : decode cX5_run 354 = .ok (.ldc2_w 161, 3) := by decide +kernel
theorem dX5_run_357 : decode cX5_run 357 = .ok (.putfield 146, 3) := by decide +kernel
theorem dX5_run_360 : decode cX5_run 360 = .ok (.aload_n 0, 1) := by decide +kernel
theorem dX5_run_361 : decode cX5_run 361 = .ok (.iload 7, 2) := by decide +kernel
theorem dX5_run_363 : decode cX5_run 363 = .ok (.ifCond .eq 7, 3) := by decide +kernel
theorem dX5_run_366 : decode cX5_run 366 = .ok (.iconst 0, 1) := by decide +kernel
theorem dX5_run_367 : decode cX5_run 367 = .ok (.goto 4, 3) := by decide +kernel
theorem dX5_run_370 : decode cX5_run 370 = .ok (.iconst 1, 1) := by decide +kernel
theorem dX5_run_371 : decode cX5_run 371 = .ok (.putfield 149, 3) := by decide +kernel
theorem dX5_run_374 : decode cX5_run 374 = .ok (.aload_n 0, 1) := by decide +kernel
theorem dX5_run_375 : decode cX5_run 375 = .ok (.getfield 149, 3) := by decide +kernel
theorem dX5_run_378 : decode cX5_run 378 = .ok (.ireturn, 1) := by decide +kernel
theorem dX5_chosen_0 : decode cX5_chosen 0 = .ok (.aload_n 0, 1) := by decide +kernel
theorem dX5_chosen_1 : decode cX5_chosen 1 = .ok (.getfield 121, 3) := by decide +kernel
theorem dX5_chosen_4 : decode cX5_chosen 4 = .ok (.ifCond .eq 26, 3) := by decide +kernel
theorem dX5_chosen_7 : decode cX5_chosen 7 = .ok (.aload_n 0, 1) := by decide +kernel
theorem dX5_chosen_8 : decode cX5_chosen 8 = .ok (.iload_n 1, 1) := by decide +kernel
theorem dX5_chosen_9 : decode cX5_chosen 9 = .ok (.invokevirtual 57, 3) := by decide +kernel
theorem dX5_chosen_12 : decode cX5_chosen 12 = .ok (.ifCond .eq 18, 3) := by decide +kernel
theorem dX5_chosen_15 : decode cX5_chosen 15 = .ok (.aload_n 0, 1) := by decide +kernel
theorem dX5_chosen_16 : decode cX5_chosen 16 = .ok (.getfield 124, 3) := by decide +kernel
theorem dX5_chosen_19 : decode cX5_chosen 19 = .ok (.iload_n 1, 1) := by decide +kernel
theorem dX5_chosen_20 : decode cX5_chosen 20 = .ok (.invokestatic 95, 3) := by decide +kernel
theorem dX5_chosen_23 : decode cX5_chosen 23 = .ok (.ifCond .eq 7, 3) := by decide +kernel
theorem dX5_chosen_26 : decode cX5_chosen 26 = .ok (.iconst 1, 1) := by decide +kernel
theorem dX5_chosen_27 : decode cX5_chosen 27 = .ok (.goto 4, 3) := by decide +kernel
theorem dX5_chosen_30 : decode cX5_chosen 30 = .ok (.iconst 0, 1) := by decide +kernel
theorem dX5_chosen_31 : decode cX5_chosen 31 = .ok (.ireturn, 1) := by decide +kernel
theorem dX5_cost_0 : decode cX5_cost 0 = .ok (.aload_n 0, 1) := by decide +kernel
theorem dX5_cost_1 : decode cX5_cost 1 = .ok (.getfield 121, 3) := by decide +kernel
theorem dX5_cost_4 : decode cX5_cost 4 = .ok (.ifCond .eq 10, 3) := by decide +kernel
theorem dX5_cost_7 : decode cX5_cost 7 = .ok (.aload_n 0, 1) := by decide +kernel
theorem dX5_cost_8 : decode cX5_cost 8 = .ok (.getfield 130, 3) := by decide +kernel
theorem dX5_cost_11 : decode cX5_cost 11 = .ok (.goto 6, 3) := by decide +kernel
theorem dX5_cost_14 : decode cX5_cost 14 = .ok (.ldc2_w 161, 3) := by decide +kernel
theorem dX5_cost_17 : decode cX5_cost 17 = .ok (.lreturn, 1) := by decide +kernel
theorem dX5_bound_0 : decode cX5_bound 0 = .ok (.aload_n 0, 1) := by decide +kernel
theorem dX5_bound_1 : decode cX5_bound 1 = .ok (.getfield 133, 3) := by decide +kernel
theorem dX5_bound_4 : decode cX5_bound 4 = .ok (.ifCond .eq 10, 3) := by decide +kernel
theorem dX5_bound_7 : decode cX5_bound 7 = .ok (.aload_n 0, 1) := by decide +kernel
theorem dX5_bound_8 : decode cX5_bound 8 = .ok (.getfield 146, 3) := by decide +kernel
theorem dX5_bound_11 : decode cX5_bound 11 = .ok (.goto 6, 3) := by decide +kernel
theorem dX5_bound_14 : decode cX5_bound 14 = .ok (.ldc2_w 161, 3) := by decide +kernel
theorem dX5_bound_17 : decode cX5_bound 17 = .ok (.lreturn, 1) := by decide +kernel
theorem dX5_proved_0 : decode cX5_proved 0 = .ok (.aload_n 0, 1) := by decide +kernel
theorem dX5_proved_1 : decode cX5_proved 1 = .ok (.getfield 133, 3) := by decide +kernel
theorem dX5_proved_4 : decode cX5_proved 4 = .ok (.ifCond .eq 15, 3) := by decide +kernel
theorem dX5_proved_7 : decode cX5_proved 7 = .ok (.aload_n 0, 1) := by decide +kernel
theorem dX5_proved_8 : decode cX5_proved 8 = .ok (.getfield 149, 3) := by decide +kernel
theorem dX5_proved_11 : decode cX5_proved 11 = .ok (.iconst 2, 1) := by decide +kernel
theorem dX5_proved_12 : decode cX5_proved 12 = .ok (.if_icmp .ge 7, 3) := by decide +kernel
theorem dX5_proved_15 : decode cX5_proved 15 = .ok (.iconst 1, 1) := by decide +kernel
theorem dX5_proved_16 : decode cX5_proved 16 = .ok (.goto 4, 3) := by decide +kernel
theorem dX5_proved_19 : decode cX5_proved 19 = .ok (.iconst 0, 1) := by decide +kernel
theorem dX5_proved_20 : decode cX5_proved 20 = .ok (.ireturn, 1) := by decide +kernel
theorem dX5_clash_0 : decode cX5_clash 0 = .ok (.iload_n 1, 1) := by decide +kernel
theorem dX5_clash_1 : decode cX5_clash 1 = .ok (.istore_n 2, 1) := by decide +kernel
theorem dX5_clash_2 : decode cX5_clash 2 = .ok (.iconst 0, 1) := by decide +kernel
theorem dX5_clash_3 : decode cX5_clash 3 = .ok (.istore_n 3, 1) := by decide +kernel
theorem dX5_clash_4 : decode cX5_clash 4 = .ok (.iload_n 3, 1) := by decide +kernel
theorem dX5_clash_5 : decode cX5_clash 5 = .ok (.bipush 8, 2) := by decide +kernel
theorem dX5_clash_7 : decode cX5_clash 7 = .ok (.if_icmp .ge 33, 3) := by decide +kernel
theorem dX5_clash_10 : decode cX5_clash 10 = .ok (.iload_n 1, 1) := by decide +kernel
theorem dX5_clash_11 : decode cX5_clash 11 = .ok (.ifCond .lt 29, 3) := by decide +kernel
theorem dX5_clash_14 : decode cX5_clash 14 = .ok (.aload_n 0, 1) := by decide +kernel
theorem dX5_clash_15 : decode cX5_clash 15 = .ok (.getfield 136, 3) := by decide +kernel
theorem dX5_clash_18 : decode cX5_clash 18 = .ok (.iload_n 3, 1) := by decide +kernel
theorem dX5_clash_19 : decode cX5_clash 19 = .ok (.invokestatic 95, 3) := by decide +kernel
theorem dX5_clash_22 : decode cX5_clash 22 = .ok (.ifCond .eq 12, 3) := by decide +kernel
theorem dX5_clash_25 : decode cX5_clash 25 = .ok (.iload_n 2, 1) := by decide +kernel
theorem dX5_clash_26 : decode cX5_clash 26 = .ok (.ifCond .ne 5, 3) := by decide +kernel
theorem dX5_clash_29 : decode cX5_clash 29 = .ok (.iload_n 3, 1) := by decide +kernel
theorem dX5_clash_30 : decode cX5_clash 30 = .ok (.ireturn, 1) := by decide +kernel
theorem dX5_clash_31 : decode cX5_clash 31 = .ok (.iinc 2 (-1), 3) := by decide +kernel
theorem dX5_clash_34 : decode cX5_clash 34 = .ok (.iinc 3 1, 3) := by decide +kernel
theorem dX5_clash_37 : decode cX5_clash 37 = .ok (.goto (-33), 3) := by decide +kernel
theorem dX5_clash_40 : decode cX5_clash 40 = .ok (.iconst (-1), 1) := by decide +kernel
theorem dX5_clash_41 : decode cX5_clash 41 = .ok (.ireturn, 1) := by decide +kernel
theorem dX5_next_0 : decode cX5_next 0 = .ok (.lload_n 0, 1) := by decide +kernel
theorem dX5_next_1 : decode cX5_next 1 = .ok (.lstore_n 2, 1) := by decide +kernel
theorem dX5_next_2 : decode cX5_next 2 = .ok (.lload_n 2, 1) := by decide +kernel
theorem dX5_next_3 : decode cX5_next 3 = .ok (.lload_n 2, 1) := by decide +kernel
theorem dX5_next_4 : decode cX5_next 4 = .ok (.bipush 13, 2) := by decide +kernel
theorem dX5_next_6 : decode cX5_next 6 = .ok (.lshl, 1) := by decide +kernel
theorem dX5_next_7 : decode cX5_next 7 = .ok (.lxor, 1) := by decide +kernel
theorem dX5_next_8 : decode cX5_next 8 = .ok (.lstore_n 2, 1) := by decide +kernel
theorem dX5_next_9 : decode cX5_next 9 = .ok (.lload_n 2, 1) := by decide +kernel
theorem dX5_next_10 : decode cX5_next 10 = .ok (.lload_n 2, 1) := by decide +kernel
theorem dX5_next_11 : decode cX5_next 11 = .ok (.bipush 7, 2) := by decide +kernel
theorem dX5_next_13 : decode cX5_next 13 = .ok (.lushr, 1) := by decide +kernel
theorem dX5_next_14 : decode cX5_next 14 = .ok (.lxor, 1) := by decide +kernel
theorem dX5_next_15 : decode cX5_next 15 = .ok (.lstore_n 2, 1) := by decide +kernel
theorem dX5_next_16 : decode cX5_next 16 = .ok (.lload_n 2, 1) := by decide +kernel
theorem dX5_next_17 : decode cX5_next 17 = .ok (.lload_n 2, 1) := by decide +kernel
theorem dX5_next_18 : decode cX5_next 18 = .ok (.bipush 17, 2) := by decide +kernel
theorem dX5_next_20 : decode cX5_next 20 = .ok (.lshl, 1) := by decide +kernel
theorem dX5_next_21 : decode cX5_next 21 = .ok (.lxor, 1) := by decide +kernel
theorem dX5_next_22 : decode cX5_next 22 = .ok (.lreturn, 1) := by decide +kernel
theorem dX5_steps_0 : decode cX5_steps 0 = .ok (.lload_n 1, 1) := by decide +kernel
theorem dX5_steps_1 : decode cX5_steps 1 = .ok (.lstore 4, 2) := by decide +kernel
theorem dX5_steps_3 : decode cX5_steps 3 = .ok (.aload_n 0, 1) := by decide +kernel
theorem dX5_steps_4 : decode cX5_steps 4 = .ok (.aload_n 0, 1) := by decide +kernel
theorem dX5_steps_5 : decode cX5_steps 5 = .ok (.invokevirtual 139, 3) := by decide +kernel
theorem dX5_steps_8 : decode cX5_steps 8 = .ok (.putfield 163, 3) := by decide +kernel
theorem dX5_steps_11 : decode cX5_steps 11 = .ok (.aload_n 0, 1) := by decide +kernel
theorem dX5_steps_12 : decode cX5_steps 12 = .ok (.aload_n 0, 1) := by decide +kernel
theorem dX5_steps_13 : decode cX5_steps 13 = .ok (.aload_n 0, 1) := by decide +kernel
theorem dX5_steps_14 : decode cX5_steps 14 = .ok (.getfield 163, 3) := by decide +kernel
theorem dX5_steps_17 : decode cX5_steps 17 = .ok (.invokevirtual 152, 3) := by decide +kernel
theorem dX5_steps_20 : decode cX5_steps 20 = .ok (.putfield 166, 3) := by decide +kernel
theorem dX5_steps_23 : decode cX5_steps 23 = .ok (.aload_n 0, 1) := by decide +kernel
theorem dX5_steps_24 : decode cX5_steps 24 = .ok (.iconst 0, 1) := by decide +kernel
theorem dX5_steps_25 : decode cX5_steps 25 = .ok (.putfield 169, 3) := by decide +kernel
theorem dX5_steps_28 : decode cX5_steps 28 = .ok (.iconst 0, 1) := by decide +kernel
theorem dX5_steps_29 : decode cX5_steps 29 = .ok (.istore 6, 2) := by decide +kernel
theorem dX5_steps_31 : decode cX5_steps 31 = .ok (.iload 6, 2) := by decide +kernel
theorem dX5_steps_33 : decode cX5_steps 33 = .ok (.iload_n 3, 1) := by decide +kernel
theorem dX5_steps_34 : decode cX5_steps 34 = .ok (.if_icmp .ge 85, 3) := by decide +kernel
theorem dX5_steps_37 : decode cX5_steps 37 = .ok (.lload 4, 2) := by decide +kernel
theorem dX5_steps_39 : decode cX5_steps 39 = .ok (.invokestatic 172, 3) := by decide +kernel
theorem dX5_steps_42 : decode cX5_steps 42 = .ok (.lstore 4, 2) := by decide +kernel
theorem dX5_steps_44 : decode cX5_steps 44 = .ok (.aload_n 0, 1) := by decide +kernel
theorem dX5_steps_45 : decode cX5_steps 45 = .ok (.getfield 163, 3) := by decide +kernel
theorem dX5_steps_48 : decode cX5_steps 48 = .ok (.iconst 1, 1) := by decide +kernel
theorem dX5_steps_49 : decode cX5_steps 49 = .ok (.lload 4, 2) := by decide +kernel
theorem dX5_steps_51 : decode cX5_steps 51 = .ok (.iconst 1, 1) := by decide +kernel
theorem dX5_steps_52 : decode cX5_steps 52 = .ok (.lushr, 1) := by decide +kernel
theorem dX5_steps_53 : decode cX5_steps 53 = .ok (.aload_n 0, 1) := by decide +kernel
theorem dX5_steps_54 : decode cX5_steps 54 = .ok (.getfield 49, 3) := by decide +kernel
theorem dX5_steps_57 : decode cX5_steps 57 = .ok (.i2l, 1) := by decide +kernel
theorem dX5_steps_58 : decode cX5_steps 58 = .ok (.lrem, 1) := by decide +kernel
theorem dX5_steps_59 : decode cX5_steps 59 = .ok (.l2i, 1) := by decide +kernel
theorem dX5_steps_60 : decode cX5_steps 60 = .ok (.ishl, 1) := by decide +kernel
theorem dX5_steps_61 : decode cX5_steps 61 = .ok (.ixor, 1) := by decide +kernel
theorem dX5_steps_62 : decode cX5_steps 62 = .ok (.istore 7, 2) := by decide +kernel
theorem dX5_steps_64 : decode cX5_steps 64 = .ok (.aload_n 0, 1) := by decide +kernel
theorem dX5_steps_65 : decode cX5_steps 65 = .ok (.iload 7, 2) := by decide +kernel
theorem dX5_steps_67 : decode cX5_steps 67 = .ok (.invokevirtual 152, 3) := by decide +kernel
theorem dX5_steps_70 : decode cX5_steps 70 = .ok (.aload_n 0, 1) := by decide +kernel
theorem dX5_steps_71 : decode cX5_steps 71 = .ok (.getfield 166, 3) := by decide +kernel
theorem dX5_steps_74 : decode cX5_steps 74 = .ok (.lcmp, 1) := by decide +kernel
theorem dX5_steps_75 : decode cX5_steps 75 = .ok (.ifCond .ge 38, 3) := by decide +kernel
theorem dX5_steps_78 : decode cX5_steps 78 = .ok (.aload_n 0, 1) := by decide +kernel
theorem dX5_steps_79 : decode cX5_steps 79 = .ok (.iload 7, 2) := by decide +kernel
theorem dX5_steps_81 : decode cX5_steps 81 = .ok (.invokevirtual 158, 3) := by decide +kernel
theorem dX5_steps_84 : decode cX5_steps 84 = .ok (.ifCond .eq 29, 3) := by decide +kernel
theorem dX5_steps_87 : decode cX5_steps 87 = .ok (.aload_n 0, 1) := by decide +kernel
theorem dX5_steps_88 : decode cX5_steps 88 = .ok (.iload 7, 2) := by decide +kernel
theorem dX5_steps_90 : decode cX5_steps 90 = .ok (.putfield 163, 3) := by decide +kernel
theorem dX5_steps_93 : decode cX5_steps 93 = .ok (.aload_n 0, 1) := by decide +kernel
theorem dX5_steps_94 : decode cX5_steps 94 = .ok (.aload_n 0, 1) := by decide +kernel
theorem dX5_steps_95 : decode cX5_steps 95 = .ok (.iload 7, 2) := by decide +kernel
theorem dX5_steps_97 : decode cX5_steps 97 = .ok (.invokevirtual 152, 3) := by decide +kernel
theorem dX5_steps_100 : decode cX5_steps 100 = .ok (.putfield 166, 3) := by decide +kernel
theorem dX5_steps_103 : decode cX5_steps 103 = .ok (.aload_n 0, 1) := by decide +kernel
theorem dX5_steps_104 : decode cX5_steps 104 = .ok (.dup, 1) := by decide +kernel
theorem dX5_steps_105 : decode cX5_steps 105 = .ok (.getfield 169, 3) := by decide +kernel
theorem dX5_steps_108 : decode cX5_steps 108 = .ok (.iconst 1, 1) := by decide +kernel
theorem dX5_steps_109 : decode cX5_steps 109 = .ok (.iadd, 1) := by decide +kernel
theorem dX5_steps_110 : decode cX5_steps 110 = .ok (.putfield 169, 3) := by decide +kernel
theorem dX5_steps_113 : decode cX5_steps 113 = .ok (.iinc 6 1, 3) := by decide +kernel
theorem dX5_steps_116 : decode cX5_steps 116 = .ok (.goto (-85), 3) := by decide +kernel
theorem dX5_steps_119 : decode cX5_steps 119 = .ok (.lload 4, 2) := by decide +kernel
theorem dX5_steps_121 : decode cX5_steps 121 = .ok (.lreturn, 1) := by decide +kernel
theorem dX5_improve_0 : decode cX5_improve 0 = .ok (.iload_n 1, 1) := by decide +kernel
theorem dX5_improve_1 : decode cX5_improve 1 = .ok (.iconst 1, 1) := by decide +kernel
theorem dX5_improve_2 : decode cX5_improve 2 = .ok (.if_icmp .lt 17, 3) := by decide +kernel
theorem dX5_improve_5 : decode cX5_improve 5 = .ok (.iload_n 1, 1) := by decide +kernel
theorem dX5_improve_6 : decode cX5_improve 6 = .ok (.sipush 1000, 3) := by decide +kernel
theorem dX5_improve_9 : decode cX5_improve 9 = .ok (.if_icmp .gt 10, 3) := by decide +kernel
theorem dX5_improve_12 : decode cX5_improve 12 = .ok (.aload_n 0, 1) := by decide +kernel
theorem dX5_improve_13 : decode cX5_improve 13 = .ok (.getfield 49, 3) := by decide +kernel
theorem dX5_improve_16 : decode cX5_improve 16 = .ok (.ifCond .ne 5, 3) := by decide +kernel
theorem dX5_improve_19 : decode cX5_improve 19 = .ok (.iconst (-1), 1) := by decide +kernel
theorem dX5_improve_20 : decode cX5_improve 20 = .ok (.ireturn, 1) := by decide +kernel
theorem dX5_improve_21 : decode cX5_improve 21 = .ok (.aload_n 0, 1) := by decide +kernel
theorem dX5_improve_22 : decode cX5_improve 22 = .ok (.aload_n 0, 1) := by decide +kernel
theorem dX5_improve_23 : decode cX5_improve 23 = .ok (.invokevirtual 139, 3) := by decide +kernel
theorem dX5_improve_26 : decode cX5_improve 26 = .ok (.invokevirtual 158, 3) := by decide +kernel
theorem dX5_improve_29 : decode cX5_improve 29 = .ok (.ifCond .ne 12, 3) := by decide +kernel
theorem dX5_improve_32 : decode cX5_improve 32 = .ok (.aload_n 0, 1) := by decide +kernel
theorem dX5_improve_33 : decode cX5_improve 33 = .ok (.iconst 0, 1) := by decide +kernel
theorem dX5_improve_34 : decode cX5_improve 34 = .ok (.iconst 0, 1) := by decide +kernel
theorem dX5_improve_35 : decode cX5_improve 35 = .ok (.lconst 0, 1) := by decide +kernel
theorem dX5_improve_36 : decode cX5_improve 36 = .ok (.invokevirtual 142, 3) := by decide +kernel
theorem dX5_improve_39 : decode cX5_improve 39 = .ok (.iconst (-1), 1) := by decide +kernel
theorem dX5_improve_40 : decode cX5_improve 40 = .ok (.ireturn, 1) := by decide +kernel
theorem dX5_improve_41 : decode cX5_improve 41 = .ok (.aload_n 0, 1) := by decide +kernel
theorem dX5_improve_42 : decode cX5_improve 42 = .ok (.aload_n 0, 1) := by decide +kernel
theorem dX5_improve_43 : decode cX5_improve 43 = .ok (.aload_n 0, 1) := by decide +kernel
theorem dX5_improve_44 : decode cX5_improve 44 = .ok (.getfield 43, 3) := by decide +kernel
theorem dX5_improve_47 : decode cX5_improve 47 = .ok (.iload_n 1, 1) := by decide +kernel
theorem dX5_improve_48 : decode cX5_improve 48 = .ok (.invokevirtual 175, 3) := by decide +kernel
theorem dX5_improve_51 : decode cX5_improve 51 = .ok (.putfield 43, 3) := by decide +kernel
theorem dX5_improve_54 : decode cX5_improve 54 = .ok (.aload_n 0, 1) := by decide +kernel
theorem dX5_improve_55 : decode cX5_improve 55 = .ok (.iconst 1, 1) := by decide +kernel
theorem dX5_improve_56 : decode cX5_improve 56 = .ok (.aload_n 0, 1) := by decide +kernel
theorem dX5_improve_57 : decode cX5_improve 57 = .ok (.getfield 163, 3) := by decide +kernel
theorem dX5_improve_60 : decode cX5_improve 60 = .ok (.aload_n 0, 1) := by decide +kernel
theorem dX5_improve_61 : decode cX5_improve 61 = .ok (.getfield 166, 3) := by decide +kernel
theorem dX5_improve_64 : decode cX5_improve 64 = .ok (.invokevirtual 142, 3) := by decide +kernel
theorem dX5_improve_67 : decode cX5_improve 67 = .ok (.aload_n 0, 1) := by decide +kernel
theorem dX5_improve_68 : decode cX5_improve 68 = .ok (.getfield 169, 3) := by decide +kernel
theorem dX5_improve_71 : decode cX5_improve 71 = .ok (.ireturn, 1) := by decide +kernel
theorem dX5_often_0 : decode cX5_often 0 = .ok (.aload_n 0, 1) := by decide +kernel
theorem dX5_often_1 : decode cX5_often 1 = .ok (.iload_n 1, 1) := by decide +kernel
theorem dX5_often_2 : decode cX5_often 2 = .ok (.invokevirtual 57, 3) := by decide +kernel
theorem dX5_often_5 : decode cX5_often 5 = .ok (.ifCond .eq 25, 3) := by decide +kernel
theorem dX5_often_8 : decode cX5_often 8 = .ok (.iload_n 2, 1) := by decide +kernel
theorem dX5_often_9 : decode cX5_often 9 = .ok (.iconst 1, 1) := by decide +kernel
theorem dX5_often_10 : decode cX5_often 10 = .ok (.if_icmp .lt 20, 3) := by decide +kernel
theorem dX5_often_13 : decode cX5_often 13 = .ok (.iload_n 2, 1) := by decide +kernel
theorem dX5_often_14 : decode cX5_often 14 = .ok (.bipush 20, 2) := by decide +kernel
theorem dX5_often_16 : decode cX5_often 16 = .ok (.if_icmp .gt 14, 3) := by decide +kernel
theorem dX5_often_19 : decode cX5_often 19 = .ok (.aload_n 0, 1) := by decide +kernel
theorem dX5_often_20 : decode cX5_often 20 = .ok (.aload_n 0, 1) := by decide +kernel
theorem dX5_often_21 : decode cX5_often 21 = .ok (.invokevirtual 139, 3) := by decide +kernel
theorem dX5_often_24 : decode cX5_often 24 = .ok (.invokevirtual 158, 3) := by decide +kernel
theorem dX5_often_27 : decode cX5_often 27 = .ok (.ifCond .ne 7, 3) := by decide +kernel
theorem dX5_often_30 : decode cX5_often 30 = .ok (.ldc2_w 161, 3) := by decide +kernel
theorem dX5_often_33 : decode cX5_often 33 = .ok (.lreturn, 1) := by decide +kernel
theorem dX5_often_34 : decode cX5_often 34 = .ok (.lconst 0, 1) := by decide +kernel
theorem dX5_often_35 : decode cX5_often 35 = .ok (.lstore_n 3, 1) := by decide +kernel
theorem dX5_often_36 : decode cX5_often 36 = .ok (.iconst 1, 1) := by decide +kernel
theorem dX5_often_37 : decode cX5_often 37 = .ok (.istore 5, 2) := by decide +kernel
theorem dX5_often_39 : decode cX5_often 39 = .ok (.iload 5, 2) := by decide +kernel
theorem dX5_often_41 : decode cX5_often 41 = .ok (.iload_n 2, 1) := by decide +kernel
theorem dX5_often_42 : decode cX5_often 42 = .ok (.if_icmp .gt 39, 3) := by decide +kernel
theorem dX5_often_45 : decode cX5_often 45 = .ok (.aload_n 0, 1) := by decide +kernel
theorem dX5_often_46 : decode cX5_often 46 = .ok (.iload 5, 2) := by decide +kernel
theorem dX5_often_48 : decode cX5_often 48 = .ok (.i2l, 1) := by decide +kernel
theorem dX5_often_49 : decode cX5_often 49 = .ok (.bipush 40, 2) := by decide +kernel
theorem dX5_often_51 : decode cX5_often 51 = .ok (.invokevirtual 175, 3) := by decide +kernel
theorem dX5_often_54 : decode cX5_often 54 = .ok (.lstore 6, 2) := by decide +kernel
theorem dX5_often_56 : decode cX5_often 56 = .ok (.lload_n 3, 1) := by decide +kernel
theorem dX5_often_57 : decode cX5_often 57 = .ok (.aload_n 0, 1) := by decide +kernel
theorem dX5_often_58 : decode cX5_often 58 = .ok (.getfield 163, 3) := by decide +kernel
theorem dX5_often_61 : decode cX5_often 61 = .ok (.iload_n 1, 1) := by decide +kernel
theorem dX5_often_62 : decode cX5_often 62 = .ok (.invokestatic 95, 3) := by decide +kernel
theorem dX5_often_65 : decode cX5_often 65 = .ok (.ifCond .eq 7, 3) := by decide +kernel
theorem dX5_often_68 : decode cX5_often 68 = .ok (.lconst 1, 1) := by decide +kernel
theorem dX5_often_69 : decode cX5_often 69 = .ok (.goto 4, 3) := by decide +kernel
theorem dX5_often_72 : decode cX5_often 72 = .ok (.lconst 0, 1) := by decide +kernel
theorem dX5_often_73 : decode cX5_often 73 = .ok (.ladd, 1) := by decide +kernel
theorem dX5_often_74 : decode cX5_often 74 = .ok (.lstore_n 3, 1) := by decide +kernel
theorem dX5_often_75 : decode cX5_often 75 = .ok (.iinc 5 1, 3) := by decide +kernel
theorem dX5_often_78 : decode cX5_often 78 = .ok (.goto (-39), 3) := by decide +kernel
theorem dX5_often_81 : decode cX5_often 81 = .ok (.lload_n 3, 1) := by decide +kernel
theorem dX5_often_82 : decode cX5_often 82 = .ok (.lreturn, 1) := by decide +kernel
theorem dX5_zone_0 : decode cX5_zone 0 = .ok (.iload_n 1, 1) := by decide +kernel
theorem dX5_zone_1 : decode cX5_zone 1 = .ok (.ifCond .lt 22, 3) := by decide +kernel
theorem dX5_zone_4 : decode cX5_zone 4 = .ok (.iload_n 1, 1) := by decide +kernel
theorem dX5_zone_5 : decode cX5_zone 5 = .ok (.iconst 3, 1) := by decide +kernel
theorem dX5_zone_6 : decode cX5_zone 6 = .ok (.if_icmp .gt 17, 3) := by decide +kernel
theorem dX5_zone_9 : decode cX5_zone 9 = .ok (.iload_n 2, 1) := by decide +kernel
theorem dX5_zone_10 : decode cX5_zone 10 = .ok (.invokestatic 61, 3) := by decide +kernel
theorem dX5_zone_13 : decode cX5_zone 13 = .ok (.ifCond .eq 10, 3) := by decide +kernel
theorem dX5_zone_16 : decode cX5_zone 16 = .ok (.aload_n 0, 1) := by decide +kernel
theorem dX5_zone_17 : decode cX5_zone 17 = .ok (.getfield 121, 3) := by decide +kernel
theorem dX5_zone_20 : decode cX5_zone 20 = .ok (.ifCond .ne 5, 3) := by decide +kernel
theorem dX5_zone_23 : decode cX5_zone 23 = .ok (.iconst (-1), 1) := by decide +kernel
theorem dX5_zone_24 : decode cX5_zone 24 = .ok (.ireturn, 1) := by decide +kernel
theorem dX5_zone_25 : decode cX5_zone 25 = .ok (.iconst 0, 1) := by decide +kernel
theorem dX5_zone_26 : decode cX5_zone 26 = .ok (.istore_n 3, 1) := by decide +kernel
theorem dX5_zone_27 : decode cX5_zone 27 = .ok (.iconst 0, 1) := by decide +kernel
theorem dX5_zone_28 : decode cX5_zone 28 = .ok (.istore 4, 2) := by decide +kernel
theorem dX5_zone_30 : decode cX5_zone 30 = .ok (.iload 4, 2) := by decide +kernel
theorem dX5_zone_32 : decode cX5_zone 32 = .ok (.aload_n 0, 1) := by decide +kernel
theorem dX5_zone_33 : decode cX5_zone 33 = .ok (.getfield 49, 3) := by decide +kernel
theorem dX5_zone_36 : decode cX5_zone 36 = .ok (.if_icmp .ge 54, 3) := by decide +kernel
theorem dX5_zone_39 : decode cX5_zone 39 = .ok (.iload_n 3, 1) := by decide +kernel
theorem dX5_zone_40 : decode cX5_zone 40 = .ok (.aload_n 0, 1) := by decide +kernel
theorem dX5_zone_41 : decode cX5_zone 41 = .ok (.getfield 124, 3) := by decide +kernel
theorem dX5_zone_44 : decode cX5_zone 44 = .ok (.iload 4, 2) := by decide +kernel
theorem dX5_zone_46 : decode cX5_zone 46 = .ok (.invokestatic 95, 3) := by decide +kernel
theorem dX5_zone_49 : decode cX5_zone 49 = .ok (.ifCond .eq 32, 3) := by decide +kernel
theorem dX5_zone_52 : decode cX5_zone 52 = .ok (.iload 4, 2) := by decide +kernel
theorem dX5_zone_54 : decode cX5_zone 54 = .ok (.iconst 4, 1) := by decide +kernel
theorem dX5_zone_55 : decode cX5_zone 55 = .ok (.irem, 1) := by decide +kernel
theorem dX5_zone_56 : decode cX5_zone 56 = .ok (.iload_n 1, 1) := by decide +kernel
theorem dX5_zone_57 : decode cX5_zone 57 = .ok (.if_icmp .ne 24, 3) := by decide +kernel
theorem dX5_zone_60 : decode cX5_zone 60 = .ok (.aload_n 0, 1) := by decide +kernel
theorem dX5_zone_61 : decode cX5_zone 61 = .ok (.getfield 17, 3) := by decide +kernel
theorem dX5_zone_64 : decode cX5_zone 64 = .ok (.bipush 24, 2) := by decide +kernel
theorem dX5_zone_66 : decode cX5_zone 66 = .ok (.iload_n 2, 1) := by decide +kernel
theorem dX5_zone_67 : decode cX5_zone 67 = .ok (.imul, 1) := by decide +kernel
theorem dX5_zone_68 : decode cX5_zone 68 = .ok (.iload 4, 2) := by decide +kernel
theorem dX5_zone_70 : decode cX5_zone 70 = .ok (.iadd, 1) := by decide +kernel
theorem dX5_zone_71 : decode cX5_zone 71 = .ok (.laload, 1) := by decide +kernel
theorem dX5_zone_72 : decode cX5_zone 72 = .ok (.lconst 0, 1) := by decide +kernel
theorem dX5_zone_73 : decode cX5_zone 73 = .ok (.lcmp, 1) := by decide +kernel
theorem dX5_zone_74 : decode cX5_zone 74 = .ok (.ifCond .le 7, 3) := by decide +kernel
theorem dX5_zone_77 : decode cX5_zone 77 = .ok (.iconst 1, 1) := by decide +kernel
theorem dX5_zone_78 : decode cX5_zone 78 = .ok (.goto 4, 3) := by decide +kernel
theorem dX5_zone_81 : decode cX5_zone 81 = .ok (.iconst 0, 1) := by decide +kernel
theorem dX5_zone_82 : decode cX5_zone 82 = .ok (.iadd, 1) := by decide +kernel
theorem dX5_zone_83 : decode cX5_zone 83 = .ok (.istore_n 3, 1) := by decide +kernel
theorem dX5_zone_84 : decode cX5_zone 84 = .ok (.iinc 4 1, 3) := by decide +kernel
theorem dX5_zone_87 : decode cX5_zone 87 = .ok (.goto (-57), 3) := by decide +kernel
theorem dX5_zone_90 : decode cX5_zone 90 = .ok (.iload_n 3, 1) := by decide +kernel
theorem dX5_zone_91 : decode cX5_zone 91 = .ok (.ireturn, 1) := by decide +kernel
theorem dX5_part_0 : decode cX5_part 0 = .ok (.lload_n 0, 1) := by decide +kernel
theorem dX5_part_1 : decode cX5_part 1 = .ok (.lconst 0, 1) := by decide +kernel
theorem dX5_part_2 : decode cX5_part 2 = .ok (.lcmp, 1) := by decide +kernel
theorem dX5_part_3 : decode cX5_part 3 = .ok (.ifCond .ne 7, 3) := by decide +kernel
theorem dX5_part_6 : decode cX5_part 6 = .ok (.iload 4, 2) := by decide +kernel
theorem dX5_part_8 : decode cX5_part 8 = .ok (.i2l, 1) := by decide +kernel
theorem dX5_part_9 : decode cX5_part 9 = .ok (.lreturn, 1) := by decide +kernel
theorem dX5_part_10 : decode cX5_part 10 = .ok (.lload_n 0, 1) := by decide +kernel
theorem dX5_part_11 : decode cX5_part 11 = .ok (.lstore 5, 2) := by decide +kernel
theorem dX5_part_13 : decode cX5_part 13 = .ok (.lload_n 2, 1) := by decide +kernel
theorem dX5_part_14 : decode cX5_part 14 = .ok (.lstore 7, 2) := by decide +kernel
theorem dX5_part_16 : decode cX5_part 16 = .ok (.lload 7, 2) := by decide +kernel
theorem dX5_part_18 : decode cX5_part 18 = .ok (.lconst 0, 1) := by decide +kernel
theorem dX5_part_19 : decode cX5_part 19 = .ok (.lcmp, 1) := by decide +kernel
theorem dX5_part_20 : decode cX5_part 20 = .ok (.ifCond .eq 21, 3) := by decide +kernel
theorem dX5_part_23 : decode cX5_part 23 = .ok (.lload 5, 2) := by decide +kernel
theorem dX5_part_25 : decode cX5_part 25 = .ok (.lload 7, 2) := by decide +kernel
theorem dX5_part_27 : decode cX5_part 27 = .ok (.lrem, 1) := by decide +kernel
theorem dX5_part_28 : decode cX5_part 28 = .ok (.lstore 9, 2) := by decide +kernel
theorem dX5_part_30 : decode cX5_part 30 = .ok (.lload 7, 2) := by decide +kernel
theorem dX5_part_32 : decode cX5_part 32 = .ok (.lstore 5, 2) := by decide +kernel
theorem dX5_part_34 : decode cX5_part 34 = .ok (.lload 9, 2) := by decide +kernel
theorem dX5_part_36 : decode cX5_part 36 = .ok (.lstore 7, 2) := by decide +kernel
theorem dX5_part_38 : decode cX5_part 38 = .ok (.goto (-22), 3) := by decide +kernel
theorem dX5_part_41 : decode cX5_part 41 = .ok (.iload 4, 2) := by decide +kernel
theorem dX5_part_43 : decode cX5_part 43 = .ok (.ifCond .ne 10, 3) := by decide +kernel
theorem dX5_part_46 : decode cX5_part 46 = .ok (.lload_n 0, 1) := by decide +kernel
theorem dX5_part_47 : decode cX5_part 47 = .ok (.lload 5, 2) := by decide +kernel
theorem dX5_part_49 : decode cX5_part 49 = .ok (.ldiv, 1) := by decide +kernel
theorem dX5_part_50 : decode cX5_part 50 = .ok (.goto 7, 3) := by decide +kernel
theorem dX5_part_53 : decode cX5_part 53 = .ok (.lload_n 2, 1) := by decide +kernel
theorem dX5_part_54 : decode cX5_part 54 = .ok (.lload 5, 2) := by decide +kernel
theorem dX5_part_56 : decode cX5_part 56 = .ok (.ldiv, 1) := by decide +kernel
theorem dX5_part_57 : decode cX5_part 57 = .ok (.lreturn, 1) := by decide +kernel
theorem dX5_met_0 : decode cX5_met 0 = .ok (.iload_n 1, 1) := by decide +kernel
theorem dX5_met_1 : decode cX5_met 1 = .ok (.invokestatic 61, 3) := by decide +kernel
theorem dX5_met_4 : decode cX5_met 4 = .ok (.ifCond .eq 19, 3) := by decide +kernel
theorem dX5_met_7 : decode cX5_met 7 = .ok (.aload_n 0, 1) := by decide +kernel
theorem dX5_met_8 : decode cX5_met 8 = .ok (.getfield 121, 3) := by decide +kernel
theorem dX5_met_11 : decode cX5_met 11 = .ok (.ifCond .eq 12, 3) := by decide +kernel
theorem dX5_met_14 : decode cX5_met 14 = .ok (.iload_n 2, 1) := by decide +kernel
theorem dX5_met_15 : decode cX5_met 15 = .ok (.ifCond .lt 8, 3) := by decide +kernel
theorem dX5_met_18 : decode cX5_met 18 = .ok (.iload_n 2, 1) := by decide +kernel
theorem dX5_met_19 : decode cX5_met 19 = .ok (.iconst 1, 1) := by decide +kernel
theorem dX5_met_20 : decode cX5_met 20 = .ok (.if_icmp .le 9, 3) := by decide +kernel
theorem dX5_met_23 : decode cX5_met 23 = .ok (.ldc2_w 161, 3) := by decide +kernel
theorem dX5_met_26 : decode cX5_met 26 = .ok (.goto 25, 3) := by decide +kernel
theorem dX5_met_29 : decode cX5_met 29 = .ok (.aload_n 0, 1) := by decide +kernel
theorem dX5_met_30 : decode cX5_met 30 = .ok (.iload_n 1, 1) := by decide +kernel
theorem dX5_met_31 : decode cX5_met 31 = .ok (.aload_n 0, 1) := by decide +kernel
theorem dX5_met_32 : decode cX5_met 32 = .ok (.getfield 124, 3) := by decide +kernel
theorem dX5_met_35 : decode cX5_met 35 = .ok (.invokevirtual 99, 3) := by decide +kernel
theorem dX5_met_38 : decode cX5_met 38 = .ok (.aload_n 0, 1) := by decide +kernel
theorem dX5_met_39 : decode cX5_met 39 = .ok (.iload_n 1, 1) := by decide +kernel
theorem dX5_met_40 : decode cX5_met 40 = .ok (.aload_n 0, 1) := by decide +kernel
theorem dX5_met_41 : decode cX5_met 41 = .ok (.invokevirtual 103, 3) := by decide +kernel
theorem dX5_met_44 : decode cX5_met 44 = .ok (.invokevirtual 99, 3) := by decide +kernel
theorem dX5_met_47 : decode cX5_met 47 = .ok (.iload_n 2, 1) := by decide +kernel
theorem dX5_met_48 : decode cX5_met 48 = .ok (.invokestatic 179, 3) := by decide +kernel
theorem dX5_met_51 : decode cX5_met 51 = .ok (.lreturn, 1) := by decide +kernel
theorem dX5_loss_0 : decode cX5_loss 0 = .ok (.iload_n 1, 1) := by decide +kernel
theorem dX5_loss_1 : decode cX5_loss 1 = .ok (.invokestatic 77, 3) := by decide +kernel
theorem dX5_loss_4 : decode cX5_loss 4 = .ok (.ifCond .eq 19, 3) := by decide +kernel
theorem dX5_loss_7 : decode cX5_loss 7 = .ok (.aload_n 0, 1) := by decide +kernel
theorem dX5_loss_8 : decode cX5_loss 8 = .ok (.getfield 121, 3) := by decide +kernel
theorem dX5_loss_11 : decode cX5_loss 11 = .ok (.ifCond .eq 12, 3) := by decide +kernel
theorem dX5_loss_14 : decode cX5_loss 14 = .ok (.iload_n 2, 1) := by decide +kernel
theorem dX5_loss_15 : decode cX5_loss 15 = .ok (.ifCond .lt 8, 3) := by decide +kernel
theorem dX5_loss_18 : decode cX5_loss 18 = .ok (.iload_n 2, 1) := by decide +kernel
theorem dX5_loss_19 : decode cX5_loss 19 = .ok (.iconst 1, 1) := by decide +kernel
theorem dX5_loss_20 : decode cX5_loss 20 = .ok (.if_icmp .le 9, 3) := by decide +kernel
theorem dX5_loss_23 : decode cX5_loss 23 = .ok (.ldc2_w 161, 3) := by decide +kernel
theorem dX5_loss_26 : decode cX5_loss 26 = .ok (.goto 25, 3) := by decide +kernel
theorem dX5_loss_29 : decode cX5_loss 29 = .ok (.aload_n 0, 1) := by decide +kernel
theorem dX5_loss_30 : decode cX5_loss 30 = .ok (.iload_n 1, 1) := by decide +kernel
theorem dX5_loss_31 : decode cX5_loss 31 = .ok (.aload_n 0, 1) := by decide +kernel
theorem dX5_loss_32 : decode cX5_loss 32 = .ok (.getfield 124, 3) := by decide +kernel
theorem dX5_loss_35 : decode cX5_loss 35 = .ok (.invokevirtual 114, 3) := by decide +kernel
theorem dX5_loss_38 : decode cX5_loss 38 = .ok (.aload_n 0, 1) := by decide +kernel
theorem dX5_loss_39 : decode cX5_loss 39 = .ok (.iload_n 1, 1) := by decide +kernel
theorem dX5_loss_40 : decode cX5_loss 40 = .ok (.aload_n 0, 1) := by decide +kernel
theorem dX5_loss_41 : decode cX5_loss 41 = .ok (.invokevirtual 103, 3) := by decide +kernel
theorem dX5_loss_44 : decode cX5_loss 44 = .ok (.invokevirtual 114, 3) := by decide +kernel
theorem dX5_loss_47 : decode cX5_loss 47 = .ok (.iload_n 2, 1) := by decide +kernel
theorem dX5_loss_48 : decode cX5_loss 48 = .ok (.invokestatic 179, 3) := by decide +kernel
theorem dX5_loss_51 : decode cX5_loss 51 = .ok (.lreturn, 1) := by decide +kernel
theorem dX5_border_0 : decode cX5_border 0 = .ok (.aload_n 0, 1) := by decide +kernel
theorem dX5_border_1 : decode cX5_border 1 = .ok (.getfield 121, 3) := by decide +kernel
theorem dX5_border_4 : decode cX5_border 4 = .ok (.ifCond .eq 14, 3) := by decide +kernel
theorem dX5_border_7 : decode cX5_border 7 = .ok (.aload_n 0, 1) := by decide +kernel
theorem dX5_border_8 : decode cX5_border 8 = .ok (.aload_n 0, 1) := by decide +kernel
theorem dX5_border_9 : decode cX5_border 9 = .ok (.getfield 124, 3) := by decide +kernel
theorem dX5_border_12 : decode cX5_border 12 = .ok (.invokevirtual 117, 3) := by decide +kernel
theorem dX5_border_15 : decode cX5_border 15 = .ok (.goto 6, 3) := by decide +kernel
theorem dX5_border_18 : decode cX5_border 18 = .ok (.ldc2_w 161, 3) := by decide +kernel
theorem dX5_border_21 : decode cX5_border 21 = .ok (.lreturn, 1) := by decide +kernel
theorem dX5_year_0 : decode cX5_year 0 = .ok (.aload_n 0, 1) := by decide +kernel
theorem dX5_year_1 : decode cX5_year 1 = .ok (.iload_n 1, 1) := by decide +kernel
theorem dX5_year_2 : decode cX5_year 2 = .ok (.invokevirtual 183, 3) := by decide +kernel
theorem dX5_year_5 : decode cX5_year 5 = .ok (.ifCond .ne 5, 3) := by decide +kernel
theorem dX5_year_8 : decode cX5_year 8 = .ok (.iconst (-1), 1) := by decide +kernel
theorem dX5_year_9 : decode cX5_year 9 = .ok (.ireturn, 1) := by decide +kernel
theorem dX5_year_10 : decode cX5_year 10 = .ok (.iconst 0, 1) := by decide +kernel
theorem dX5_year_11 : decode cX5_year 11 = .ok (.istore_n 2, 1) := by decide +kernel
theorem dX5_year_12 : decode cX5_year 12 = .ok (.iconst 0, 1) := by decide +kernel
theorem dX5_year_13 : decode cX5_year 13 = .ok (.istore_n 3, 1) := by decide +kernel
theorem dX5_year_14 : decode cX5_year 14 = .ok (.iload_n 3, 1) := by decide +kernel
theorem dX5_year_15 : decode cX5_year 15 = .ok (.aload_n 0, 1) := by decide +kernel
theorem dX5_year_16 : decode cX5_year 16 = .ok (.getfield 49, 3) := by decide +kernel
theorem dX5_year_19 : decode cX5_year 19 = .ok (.if_icmp .ge 65, 3) := by decide +kernel
theorem dX5_year_22 : decode cX5_year 22 = .ok (.iload_n 2, 1) := by decide +kernel
theorem dX5_year_23 : decode cX5_year 23 = .ok (.aload_n 0, 1) := by decide +kernel
theorem dX5_year_24 : decode cX5_year 24 = .ok (.getfield 124, 3) := by decide +kernel
theorem dX5_year_27 : decode cX5_year 27 = .ok (.iload_n 3, 1) := by decide +kernel
theorem dX5_year_28 : decode cX5_year 28 = .ok (.invokestatic 95, 3) := by decide +kernel
theorem dX5_year_31 : decode cX5_year 31 = .ok (.ifCond .eq 44, 3) := by decide +kernel
theorem dX5_year_34 : decode cX5_year 34 = .ok (.aload_n 0, 1) := by decide +kernel
theorem dX5_year_35 : decode cX5_year 35 = .ok (.getfield 7, 3) := by decide +kernel
theorem dX5_year_38 : decode cX5_year 38 = .ok (.iload_n 3, 1) := by decide +kernel
theorem dX5_year_39 : decode cX5_year 39 = .ok (.laload, 1) := by decide +kernel
theorem dX5_year_40 : decode cX5_year 40 = .ok (.aload_n 0, 1) := by decide +kernel
theorem dX5_year_41 : decode cX5_year 41 = .ok (.getfield 7, 3) := by decide +kernel
theorem dX5_year_44 : decode cX5_year 44 = .ok (.iload_n 1, 1) := by decide +kernel
theorem dX5_year_45 : decode cX5_year 45 = .ok (.laload, 1) := by decide +kernel
theorem dX5_year_46 : decode cX5_year 46 = .ok (.lcmp, 1) := by decide +kernel
theorem dX5_year_47 : decode cX5_year 47 = .ok (.ifCond .lt 24, 3) := by decide +kernel
theorem dX5_year_50 : decode cX5_year 50 = .ok (.aload_n 0, 1) := by decide +kernel
theorem dX5_year_51 : decode cX5_year 51 = .ok (.getfield 7, 3) := by decide +kernel
theorem dX5_year_54 : decode cX5_year 54 = .ok (.iload_n 3, 1) := by decide +kernel
theorem dX5_year_55 : decode cX5_year 55 = .ok (.laload, 1) := by decide +kernel
theorem dX5_year_56 : decode cX5_year 56 = .ok (.aload_n 0, 1) := by decide +kernel
theorem dX5_year_57 : decode cX5_year 57 = .ok (.getfield 7, 3) := by decide +kernel
theorem dX5_year_60 : decode cX5_year 60 = .ok (.iload_n 1, 1) := by decide +kernel
theorem dX5_year_61 : decode cX5_year 61 = .ok (.laload, 1) := by decide +kernel
theorem dX5_year_62 : decode cX5_year 62 = .ok (.lcmp, 1) := by decide +kernel
theorem dX5_year_63 : decode cX5_year 63 = .ok (.ifCond .ne 12, 3) := by decide +kernel
theorem dX5_year_66 : decode cX5_year 66 = .ok (.iload_n 3, 1) := by decide +kernel
theorem dX5_year_67 : decode cX5_year 67 = .ok (.iload_n 1, 1) := by decide +kernel
theorem dX5_year_68 : decode cX5_year 68 = .ok (.if_icmp .ge 7, 3) := by decide +kernel
theorem dX5_year_71 : decode cX5_year 71 = .ok (.iconst 1, 1) := by decide +kernel
theorem dX5_year_72 : decode cX5_year 72 = .ok (.goto 4, 3) := by decide +kernel
theorem dX5_year_75 : decode cX5_year 75 = .ok (.iconst 0, 1) := by decide +kernel
theorem dX5_year_76 : decode cX5_year 76 = .ok (.iadd, 1) := by decide +kernel
theorem dX5_year_77 : decode cX5_year 77 = .ok (.istore_n 2, 1) := by decide +kernel
theorem dX5_year_78 : decode cX5_year 78 = .ok (.iinc 3 1, 3) := by decide +kernel
theorem dX5_year_81 : decode cX5_year 81 = .ok (.goto (-67), 3) := by decide +kernel
theorem dX5_year_84 : decode cX5_year 84 = .ok (.iload_n 2, 1) := by decide +kernel
theorem dX5_year_85 : decode cX5_year 85 = .ok (.iconst 2, 1) := by decide +kernel
theorem dX5_year_86 : decode cX5_year 86 = .ok (.idiv, 1) := by decide +kernel
theorem dX5_year_87 : decode cX5_year 87 = .ok (.ireturn, 1) := by decide +kernel
theorem dX5_unlike_0 : decode cX5_unlike 0 = .ok (.iload_n 1, 1) := by decide +kernel
theorem dX5_unlike_1 : decode cX5_unlike 1 = .ok (.ifCond .lt 9, 3) := by decide +kernel
theorem dX5_unlike_4 : decode cX5_unlike 4 = .ok (.iload_n 1, 1) := by decide +kernel
theorem dX5_unlike_5 : decode cX5_unlike 5 = .ok (.bipush 24, 2) := by decide +kernel
theorem dX5_unlike_7 : decode cX5_unlike 7 = .ok (.if_icmp .le 5, 3) := by decide +kernel
theorem dX5_unlike_10 : decode cX5_unlike 10 = .ok (.iconst (-1), 1) := by decide +kernel
theorem dX5_unlike_11 : decode cX5_unlike 11 = .ok (.ireturn, 1) := by decide +kernel
theorem dX5_unlike_12 : decode cX5_unlike 12 = .ok (.iconst 0, 1) := by decide +kernel
theorem dX5_unlike_13 : decode cX5_unlike 13 = .ok (.istore_n 2, 1) := by decide +kernel
theorem dX5_unlike_14 : decode cX5_unlike 14 = .ok (.iconst 0, 1) := by decide +kernel
theorem dX5_unlike_15 : decode cX5_unlike 15 = .ok (.istore_n 3, 1) := by decide +kernel
theorem dX5_unlike_16 : decode cX5_unlike 16 = .ok (.iload_n 3, 1) := by decide +kernel
theorem dX5_unlike_17 : decode cX5_unlike 17 = .ok (.iload_n 1, 1) := by decide +kernel
theorem dX5_unlike_18 : decode cX5_unlike 18 = .ok (.if_icmp .ge 47, 3) := by decide +kernel
theorem dX5_unlike_21 : decode cX5_unlike 21 = .ok (.iload_n 2, 1) := by decide +kernel
theorem dX5_unlike_22 : decode cX5_unlike 22 = .ok (.aload_n 0, 1) := by decide +kernel
theorem dX5_unlike_23 : decode cX5_unlike 23 = .ok (.getfield 121, 3) := by decide +kernel
theorem dX5_unlike_26 : decode cX5_unlike 26 = .ok (.ifCond .eq 10, 3) := by decide +kernel
theorem dX5_unlike_29 : decode cX5_unlike 29 = .ok (.aload_n 0, 1) := by decide +kernel
theorem dX5_unlike_30 : decode cX5_unlike 30 = .ok (.getfield 124, 3) := by decide +kernel
theorem dX5_unlike_33 : decode cX5_unlike 33 = .ok (.goto 4, 3) := by decide +kernel
theorem dX5_unlike_36 : decode cX5_unlike 36 = .ok (.iconst 0, 1) := by decide +kernel
theorem dX5_unlike_37 : decode cX5_unlike 37 = .ok (.iload_n 3, 1) := by decide +kernel
theorem dX5_unlike_38 : decode cX5_unlike 38 = .ok (.invokestatic 95, 3) := by decide +kernel
theorem dX5_unlike_41 : decode cX5_unlike 41 = .ok (.aload_n 0, 1) := by decide +kernel
theorem dX5_unlike_42 : decode cX5_unlike 42 = .ok (.getfield 127, 3) := by decide +kernel
theorem dX5_unlike_45 : decode cX5_unlike 45 = .ok (.iload_n 3, 1) := by decide +kernel
theorem dX5_unlike_46 : decode cX5_unlike 46 = .ok (.invokestatic 95, 3) := by decide +kernel
theorem dX5_unlike_49 : decode cX5_unlike 49 = .ok (.if_icmp .eq 7, 3) := by decide +kernel
theorem dX5_unlike_52 : decode cX5_unlike 52 = .ok (.iconst 1, 1) := by decide +kernel
theorem dX5_unlike_53 : decode cX5_unlike 53 = .ok (.goto 4, 3) := by decide +kernel
theorem dX5_unlike_56 : decode cX5_unlike 56 = .ok (.iconst 0, 1) := by decide +kernel
theorem dX5_unlike_57 : decode cX5_unlike 57 = .ok (.iadd, 1) := by decide +kernel
theorem dX5_unlike_58 : decode cX5_unlike 58 = .ok (.istore_n 2, 1) := by decide +kernel
theorem dX5_unlike_59 : decode cX5_unlike 59 = .ok (.iinc 3 1, 3) := by decide +kernel
theorem dX5_unlike_62 : decode cX5_unlike 62 = .ok (.goto (-46), 3) := by decide +kernel
theorem dX5_unlike_65 : decode cX5_unlike 65 = .ok (.iload_n 2, 1) := by decide +kernel
theorem dX5_unlike_66 : decode cX5_unlike 66 = .ok (.ireturn, 1) := by decide +kernel
theorem dX5_tie_0 : decode cX5_tie 0 = .ok (.aload_n 0, 1) := by decide +kernel
theorem dX5_tie_1 : decode cX5_tie 1 = .ok (.getfield 121, 3) := by decide +kernel
theorem dX5_tie_4 : decode cX5_tie 4 = .ok (.ifCond .eq 7, 3) := by decide +kernel
theorem dX5_tie_7 : decode cX5_tie 7 = .ok (.iload_n 1, 1) := by decide +kernel
theorem dX5_tie_8 : decode cX5_tie 8 = .ok (.ifCond .ge 5, 3) := by decide +kernel
theorem dX5_tie_11 : decode cX5_tie 11 = .ok (.iconst (-1), 1) := by decide +kernel
theorem dX5_tie_12 : decode cX5_tie 12 = .ok (.ireturn, 1) := by decide +kernel
theorem dX5_tie_13 : decode cX5_tie 13 = .ok (.iload_n 1, 1) := by decide +kernel
theorem dX5_tie_14 : decode cX5_tie 14 = .ok (.istore_n 2, 1) := by decide +kernel
theorem dX5_tie_15 : decode cX5_tie 15 = .ok (.iconst 0, 1) := by decide +kernel
theorem dX5_tie_16 : decode cX5_tie 16 = .ok (.istore_n 3, 1) := by decide +kernel
theorem dX5_tie_17 : decode cX5_tie 17 = .ok (.iload_n 3, 1) := by decide +kernel
theorem dX5_tie_18 : decode cX5_tie 18 = .ok (.aload_n 0, 1) := by decide +kernel
theorem dX5_tie_19 : decode cX5_tie 19 = .ok (.getfield 49, 3) := by decide +kernel
theorem dX5_tie_22 : decode cX5_tie 22 = .ok (.if_icmp .ge 64, 3) := by decide +kernel
theorem dX5_tie_25 : decode cX5_tie 25 = .ok (.aload_n 0, 1) := by decide +kernel
theorem dX5_tie_26 : decode cX5_tie 26 = .ok (.getfield 124, 3) := by decide +kernel
theorem dX5_tie_29 : decode cX5_tie 29 = .ok (.iconst 1, 1) := by decide +kernel
theorem dX5_tie_30 : decode cX5_tie 30 = .ok (.iload_n 3, 1) := by decide +kernel
theorem dX5_tie_31 : decode cX5_tie 31 = .ok (.ishl, 1) := by decide +kernel
theorem dX5_tie_32 : decode cX5_tie 32 = .ok (.ixor, 1) := by decide +kernel
theorem dX5_tie_33 : decode cX5_tie 33 = .ok (.istore 4, 2) := by decide +kernel
theorem dX5_tie_35 : decode cX5_tie 35 = .ok (.aload_n 0, 1) := by decide +kernel
theorem dX5_tie_36 : decode cX5_tie 36 = .ok (.getfield 13, 3) := by decide +kernel
theorem dX5_tie_39 : decode cX5_tie 39 = .ok (.iload_n 3, 1) := by decide +kernel
theorem dX5_tie_40 : decode cX5_tie 40 = .ok (.iaload, 1) := by decide +kernel
theorem dX5_tie_41 : decode cX5_tie 41 = .ok (.ifCond .ne 39, 3) := by decide +kernel
theorem dX5_tie_44 : decode cX5_tie 44 = .ok (.aload_n 0, 1) := by decide +kernel
theorem dX5_tie_45 : decode cX5_tie 45 = .ok (.iload 4, 2) := by decide +kernel
theorem dX5_tie_47 : decode cX5_tie 47 = .ok (.invokevirtual 152, 3) := by decide +kernel
theorem dX5_tie_50 : decode cX5_tie 50 = .ok (.aload_n 0, 1) := by decide +kernel
theorem dX5_tie_51 : decode cX5_tie 51 = .ok (.aload_n 0, 1) := by decide +kernel
theorem dX5_tie_52 : decode cX5_tie 52 = .ok (.getfield 124, 3) := by decide +kernel
theorem dX5_tie_55 : decode cX5_tie 55 = .ok (.invokevirtual 152, 3) := by decide +kernel
theorem dX5_tie_58 : decode cX5_tie 58 = .ok (.lcmp, 1) := by decide +kernel
theorem dX5_tie_59 : decode cX5_tie 59 = .ok (.ifCond .ne 21, 3) := by decide +kernel
theorem dX5_tie_62 : decode cX5_tie 62 = .ok (.aload_n 0, 1) := by decide +kernel
theorem dX5_tie_63 : decode cX5_tie 63 = .ok (.iload 4, 2) := by decide +kernel
theorem dX5_tie_65 : decode cX5_tie 65 = .ok (.invokevirtual 158, 3) := by decide +kernel
theorem dX5_tie_68 : decode cX5_tie 68 = .ok (.ifCond .eq 12, 3) := by decide +kernel
theorem dX5_tie_71 : decode cX5_tie 71 = .ok (.iload_n 2, 1) := by decide +kernel
theorem dX5_tie_72 : decode cX5_tie 72 = .ok (.ifCond .ne 5, 3) := by decide +kernel
theorem dX5_tie_75 : decode cX5_tie 75 = .ok (.iload_n 3, 1) := by decide +kernel
theorem dX5_tie_76 : decode cX5_tie 76 = .ok (.ireturn, 1) := by decide +kernel
theorem dX5_tie_77 : decode cX5_tie 77 = .ok (.iinc 2 (-1), 3) := by decide +kernel
theorem dX5_tie_80 : decode cX5_tie 80 = .ok (.iinc 3 1, 3) := by decide +kernel
theorem dX5_tie_83 : decode cX5_tie 83 = .ok (.goto (-66), 3) := by decide +kernel
theorem dX5_tie_86 : decode cX5_tie 86 = .ok (.iconst (-1), 1) := by decide +kernel
theorem dX5_tie_87 : decode cX5_tie 87 = .ok (.ireturn, 1) := by decide +kernel
theorem dL_cell_0 : decode cL_cell 0 = .ok (.iload_n 1, 1) := by decide +kernel
theorem dL_cell_1 : decode cL_cell 1 = .ok (.aload_n 0, 1) := by decide +kernel
theorem dL_cell_2 : decode cL_cell 2 = .ok (.arraylength, 1) := by decide +kernel
theorem dL_cell_3 : decode cL_cell 3 = .ok (.if_icmp .ge 9, 3) := by decide +kernel
theorem dL_cell_6 : decode cL_cell 6 = .ok (.aload_n 0, 1) := by decide +kernel
theorem dL_cell_7 : decode cL_cell 7 = .ok (.iload_n 1, 1) := by decide +kernel
theorem dL_cell_8 : decode cL_cell 8 = .ok (.iaload, 1) := by decide +kernel
theorem dL_cell_9 : decode cL_cell 9 = .ok (.goto 4, 3) := by decide +kernel
theorem dL_cell_12 : decode cL_cell 12 = .ok (.iconst 0, 1) := by decide +kernel
theorem dL_cell_13 : decode cL_cell 13 = .ok (.ireturn, 1) := by decide +kernel
theorem dL_law_0 : decode cL_law 0 = .ok (.new 7, 3) := by decide +kernel
theorem dL_law_3 : decode cL_law 3 = .ok (.dup, 1) := by decide +kernel
theorem dL_law_4 : decode cL_law 4 = .ok (.aload_n 0, 1) := by decide +kernel
theorem dL_law_5 : decode cL_law 5 = .ok (.iconst 0, 1) := by decide +kernel
theorem dL_law_6 : decode cL_law 6 = .ok (.invokestatic 9, 3) := by decide +kernel
theorem dL_law_9 : decode cL_law 9 = .ok (.i2l, 1) := by decide +kernel
theorem dL_law_10 : decode cL_law 10 = .ok (.invokespecial 15, 3) := by decide +kernel
theorem dL_law_13 : decode cL_law 13 = .ok (.astore_n 1, 1) := by decide +kernel
theorem dL_law_14 : decode cL_law 14 = .ok (.new 18, 3) := by decide +kernel
theorem dL_law_17 : decode cL_law 17 = .ok (.dup, 1) := by decide +kernel
theorem dL_law_18 : decode cL_law 18 = .ok (.aload_n 0, 1) := by decide +kernel
theorem dL_law_19 : decode cL_law 19 = .ok (.iconst 0, 1) := by decide +kernel
theorem dL_law_20 : decode cL_law 20 = .ok (.invokestatic 9, 3) := by decide +kernel
theorem dL_law_23 : decode cL_law 23 = .ok (.i2l, 1) := by decide +kernel
theorem dL_law_24 : decode cL_law 24 = .ok (.invokespecial 20, 3) := by decide +kernel
theorem dL_law_27 : decode cL_law 27 = .ok (.astore_n 2, 1) := by decide +kernel
theorem dL_law_28 : decode cL_law 28 = .ok (.iconst 1, 1) := by decide +kernel
theorem dL_law_29 : decode cL_law 29 = .ok (.istore_n 3, 1) := by decide +kernel
theorem dL_law_30 : decode cL_law 30 = .ok (.iload_n 3, 1) := by decide +kernel
theorem dL_law_31 : decode cL_law 31 = .ok (.aload_n 0, 1) := by decide +kernel
theorem dL_law_32 : decode cL_law 32 = .ok (.arraylength, 1) := by decide +kernel
theorem dL_law_33 : decode cL_law 33 = .ok (.bipush 7, 2) := by decide +kernel
theorem dL_law_35 : decode cL_law 35 = .ok (.isub, 1) := by decide +kernel
theorem dL_law_36 : decode cL_law 36 = .ok (.if_icmp .gt 1257, 3) := by decide +kernel
theorem dL_law_39 : decode cL_law 39 = .ok (.aload_n 0, 1) := by decide +kernel
theorem dL_law_40 : decode cL_law 40 = .ok (.iload_n 3, 1) := by decide +kernel
theorem dL_law_41 : decode cL_law 41 = .ok (.iaload, 1) := by decide +kernel
theorem dL_law_42 : decode cL_law 42 = .ok (.bipush 31, 2) := by decide +kernel
theorem dL_law_44 : decode cL_law 44 = .ok (.iand, 1) := by decide +kernel
theorem dL_law_45 : decode cL_law 45 = .ok (.tableswitch 1242 0 26 #[123, 176, 291, 394, 467, 520, 543, 566, 599, 652, 675, 689, 703, 737, 760, 773, 796, 830, 903, 937, 1030, 1044, 1067, 1090, 1153, 1176, 1219], 123) := by decide +kernel
theorem dL_law_168 : decode cL_law 168 = .ok (.aload_n 1, 1) := by decide +kernel
theorem dL_law_169 : decode cL_law 169 = .ok (.aload_n 0, 1) := by decide +kernel
theorem dL_law_170 : decode cL_law 170 = .ok (.iload_n 3, 1) := by decide +kernel
theorem dL_law_171 : decode cL_law 171 = .ok (.iconst 1, 1) := by decide +kernel
theorem dL_law_172 : decode cL_law 172 = .ok (.iadd, 1) := by decide +kernel
theorem dL_law_173 : decode cL_law 173 = .ok (.iaload, 1) := by decide +kernel
theorem dL_law_174 : decode cL_law 174 = .ok (.i2l, 1) := by decide +kernel
theorem dL_law_175 : decode cL_law 175 = .ok (.bipush 32, 2) := by decide +kernel
theorem dL_law_177 : decode cL_law 177 = .ok (.lshl, 1) := by decide +kernel
theorem dL_law_178 : decode cL_law 178 = .ok (.aload_n 0, 1) := by decide +kernel
theorem dL_law_179 : decode cL_law 179 = .ok (.iload_n 3, 1) := by decide +kernel
theorem dL_law_180 : decode cL_law 180 = .ok (.iconst 2, 1) := by decide +kernel
theorem dL_law_181 : decode cL_law 181 = .ok (.iadd, 1) := by decide +kernel
theorem dL_law_182 : decode cL_law 182 = .ok (.iaload, 1) := by decide +kernel
theorem dL_law_183 : decode cL_law 183 = .ok (.i2l, 1) := by decide +kernel
theorem dL_law_184 : decode cL_law 184 = .ok (.ldc2_w 21, 3) := by decide +kernel
theorem dL_law_187 : decode cL_law 187 = .ok (.land, 1) := by decide +kernel
theorem dL_law_188 : decode cL_law 188 = .ok (.lor, 1) := by decide +kernel
theorem dL_law_189 : decode cL_law 189 = .ok (.invokevirtual 23, 3) := by decide +kernel
theorem dL_law_192 : decode cL_law 192 = .ok (.aload_n 2, 1) := by decide +kernel
theorem dL_law_193 : decode cL_law 193 = .ok (.aload_n 0, 1) := by decide +kernel
theorem dL_law_194 : decode cL_law 194 = .ok (.iload_n 3, 1) := by decide +kernel
theorem dL_law_195 : decode cL_law 195 = .ok (.iconst 1, 1) := by decide +kernel
theorem dL_law_196 : decode cL_law 196 = .ok (.iadd, 1) := by decide +kernel
theorem dL_law_197 : decode cL_law 197 = .ok (.iaload, 1) := by decide +kernel
theorem dL_law_198 : decode cL_law 198 = .ok (.i2l, 1) := by decide +kernel
theorem dL_law_199 : decode cL_law 199 = .ok (.bipush 32, 2) := by decide +kernel
theorem dL_law_201 : decode cL_law 201 = .ok (.lshl, 1) := by decide +kernel
theorem dL_law_202 : decode cL_law 202 = .ok (.aload_n 0, 1) := by decide +kernel
theorem dL_law_203 : decode cL_law 203 = .ok (.iload_n 3, 1) := by decide +kernel
theorem dL_law_204 : decode cL_law 204 = .ok (.iconst 2, 1) := by decide +kernel
theorem dL_law_205 : decode cL_law 205 = .ok (.iadd, 1) := by decide +kernel
theorem dL_law_206 : decode cL_law 206 = .ok (.iaload, 1) := by decide +kernel
theorem dL_law_207 : decode cL_law 207 = .ok (.i2l, 1) := by decide +kernel
theorem dL_law_208 : decode cL_law 208 = .ok (.ldc2_w 21, 3) := by decide +kernel
theorem dL_law_211 : decode cL_law 211 = .ok (.land, 1) := by decide +kernel
theorem dL_law_212 : decode cL_law 212 = .ok (.lor, 1) := by decide +kernel
theorem dL_law_213 : decode cL_law 213 = .ok (.invokevirtual 26, 3) := by decide +kernel
theorem dL_law_216 : decode cL_law 216 = .ok (.if_icmp .eq 1071, 3) := by decide +kernel
theorem dL_law_219 : decode cL_law 219 = .ok (.iconst 0, 1) := by decide +kernel
theorem dL_law_220 : decode cL_law 220 = .ok (.ireturn, 1) := by decide +kernel
theorem dL_law_221 : decode cL_law 221 = .ok (.aload_n 1, 1) := by decide +kernel
theorem dL_law_222 : decode cL_law 222 = .ok (.aload_n 0, 1) := by decide +kernel
theorem dL_law_223 : decode cL_law 223 = .ok (.iload_n 3, 1) := by decide +kernel
theorem dL_law_224 : decode cL_law 224 = .ok (.iconst 1, 1) := by decide +kernel
theorem dL_law_225 : decode cL_law 225 = .ok (.iadd, 1) := by decide +kernel
theorem dL_law_226 : decode cL_law 226 = .ok (.iaload, 1) := by decide +kernel
theorem dL_law_227 : decode cL_law 227 = .ok (.aload_n 0, 1) := by decide +kernel
theorem dL_law_228 : decode cL_law 228 = .ok (.iload_n 3, 1) := by decide +kernel
theorem dL_law_229 : decode cL_law 229 = .ok (.iconst 2, 1) := by decide +kernel
theorem dL_law_230 : decode cL_law 230 = .ok (.iadd, 1) := by decide +kernel
theorem dL_law_231 : decode cL_law 231 = .ok (.iaload, 1) := by decide +kernel
theorem dL_law_232 : decode cL_law 232 = .ok (.aload_n 0, 1) := by decide +kernel
theorem dL_law_233 : decode cL_law 233 = .ok (.iload_n 3, 1) := by decide +kernel
theorem dL_law_234 : decode cL_law 234 = .ok (.iconst 3, 1) := by decide +kernel
theorem dL_law_235 : decode cL_law 235 = .ok (.iadd, 1) := by decide +kernel
theorem dL_law_236 : decode cL_law 236 = .ok (.iaload, 1) := by decide +kernel
theorem dL_law_237 : decode cL_law 237 = .ok (.i2l, 1) := by decide +kernel
theorem dL_law_238 : decode cL_law 238 = .ok (.bipush 32, 2) := by decide +kernel
theorem dL_law_240 : decode cL_law 240 = .ok (.lshl, 1) := by decide +kernel
theorem dL_law_241 : decode cL_law 241 = .ok (.aload_n 0, 1) := by decide +kernel
theorem dL_law_242 : decode cL_law 242 = .ok (.iload_n 3, 1) := by decide +kernel
theorem dL_law_243 : decode cL_law 243 = .ok (.iconst 4, 1) := by decide +kernel
theorem dL_law_244 : decode cL_law 244 = .ok (.iadd, 1) := by decide +kernel
theorem dL_law_245 : decode cL_law 245 = .ok (.iaload, 1) := by decide +kernel
theorem dL_law_246 : decode cL_law 246 = .ok (.i2l, 1) := by decide +kernel
theorem dL_law_247 : decode cL_law 247 = .ok (.ldc2_w 21, 3) := by decide +kernel
theorem dL_law_250 : decode cL_law 250 = .ok (.land, 1) := by decide +kernel
theorem dL_law_251 : decode cL_law 251 = .ok (.lor, 1) := by decide +kernel
theorem dL_law_252 : decode cL_law 252 = .ok (.aload_n 0, 1) := by decide +kernel
theorem dL_law_253 : decode cL_law 253 = .ok (.iload_n 3, 1) := by decide +kernel
theorem dL_law_254 : decode cL_law 254 = .ok (.iconst 5, 1) := by decide +kernel
theorem dL_law_255 : decode cL_law 255 = .ok (.iadd, 1) := by decide +kernel
theorem dL_law_256 : decode cL_law 256 = .ok (.iaload, 1) := by decide +kernel
theorem dL_law_257 : decode cL_law 257 = .ok (.i2l, 1) := by decide +kernel
theorem dL_law_258 : decode cL_law 258 = .ok (.bipush 32, 2) := by decide +kernel
theorem dL_law_260 : decode cL_law 260 = .ok (.lshl, 1) := by decide +kernel
theorem dL_law_261 : decode cL_law 261 = .ok (.aload_n 0, 1) := by decide +kernel
theorem dL_law_262 : decode cL_law 262 = .ok (.iload_n 3, 1) := by decide +kernel
theorem dL_law_263 : decode cL_law 263 = .ok (.bipush 6, 2) := by decide +kernel
theorem dL_law_265 : decode cL_law 265 = .ok (.iadd, 1) := by decide +kernel
theorem dL_law_266 : decode cL_law 266 = .ok (.iaload, 1) := by decide +kernel
theorem dL_law_267 : decode cL_law 267 = .ok (.i2l, 1) := by decide +kernel
theorem dL_law_268 : decode cL_law 268 = .ok (.ldc2_w 21, 3) := by decide +kernel
theorem dL_law_271 : decode cL_law 271 = .ok (.land, 1) := by decide +kernel
theorem dL_law_272 : decode cL_law 272 = .ok (.lor, 1) := by decide +kernel
theorem dL_law_273 : decode cL_law 273 = .ok (.invokevirtual 27, 3) := by decide +kernel
theorem dL_law_276 : decode cL_law 276 = .ok (.aload_n 2, 1) := by decide +kernel
theorem dL_law_277 : decode cL_law 277 = .ok (.aload_n 0, 1) := by decide +kernel
theorem dL_law_278 : decode cL_law 278 = .ok (.iload_n 3, 1) := by decide +kernel
theorem dL_law_279 : decode cL_law 279 = .ok (.iconst 1, 1) := by decide +kernel
theorem dL_law_280 : decode cL_law 280 = .ok (.iadd, 1) := by decide +kernel
theorem dL_law_281 : decode cL_law 281 = .ok (.iaload, 1) := by decide +kernel
theorem dL_law_282 : decode cL_law 282 = .ok (.aload_n 0, 1) := by decide +kernel
theorem dL_law_283 : decode cL_law 283 = .ok (.iload_n 3, 1) := by decide +kernel
theorem dL_law_284 : decode cL_law 284 = .ok (.iconst 2, 1) := by decide +kernel
theorem dL_law_285 : decode cL_law 285 = .ok (.iadd, 1) := by decide +kernel
theorem dL_law_286 : decode cL_law 286 = .ok (.iaload, 1) := by decide +kernel
theorem dL_law_287 : decode cL_law 287 = .ok (.aload_n 0, 1) := by decide +kernel
theorem dL_law_288 : decode cL_law 288 = .ok (.iload_n 3, 1) := by decide +kernel
theorem dL_law_289 : decode cL_law 289 = .ok (.iconst 3, 1) := by decide +kernel
theorem dL_law_290 : decode cL_law 290 = .ok (.iadd, 1) := by decide +kernel
theorem dL_law_291 : decode cL_law 291 = .ok (.iaload, 1) := by decide +kernel
theorem dL_law_292 : decode cL_law 292 = .ok (.i2l, 1) := by decide +kernel
theorem dL_law_293 : decode cL_law 293 = .ok (.bipush 32, 2) := by decide +kernel
theorem dL_law_295 : decode cL_law 295 = .ok (.lshl, 1) := by decide +kernel
theorem dL_law_296 : decode cL_law 296 = .ok (.aload_n 0, 1) := by decide +kernel
theorem dL_law_297 : decode cL_law 297 = .ok (.iload_n 3, 1) := by decide +kernel
theorem dL_law_298 : decode cL_law 298 = .ok (.iconst 4, 1) := by decide +kernel
theorem dL_law_299 : decode cL_law 299 = .ok (.iadd, 1) := by decide +kernel
theorem dL_law_300 : decode cL_law 300 = .ok (.iaload, 1) := by decide +kernel
theorem dL_law_301 : decode cL_law 301 = .ok (.i2l, 1) := by decide +kernel
theorem dL_law_302 : decode cL_law 302 = .ok (.ldc2_w 21, 3) := by decide +kernel
theorem dL_law_305 : decode cL_law 305 = .ok (.land, 1) := by decide +kernel
theorem dL_law_306 : decode cL_law 306 = .ok (.lor, 1) := by decide +kernel
theorem dL_law_307 : decode cL_law 307 = .ok (.aload_n 0, 1) := by decide +kernel
theorem dL_law_308 : decode cL_law 308 = .ok (.iload_n 3, 1) := by decide +kernel
theorem dL_law_309 : decode cL_law 309 = .ok (.iconst 5, 1) := by decide +kernel
theorem dL_law_310 : decode cL_law 310 = .ok (.iadd, 1) := by decide +kernel
theorem dL_law_311 : decode cL_law 311 = .ok (.iaload, 1) := by decide +kernel
theorem dL_law_312 : decode cL_law 312 = .ok (.i2l, 1) := by decide +kernel
theorem dL_law_313 : decode cL_law 313 = .ok (.bipush 32, 2) := by decide +kernel
theorem dL_law_315 : decode cL_law 315 = .ok (.lshl, 1) := by decide +kernel
theorem dL_law_316 : decode cL_law 316 = .ok (.aload_n 0, 1) := by decide +kernel
theorem dL_law_317 : decode cL_law 317 = .ok (.iload_n 3, 1) := by decide +kernel
theorem dL_law_318 : decode cL_law 318 = .ok (.bipush 6, 2) := by decide +kernel
theorem dL_law_320 : decode cL_law 320 = .ok (.iadd, 1) := by decide +kernel
theorem dL_law_321 : decode cL_law 321 = .ok (.iaload, 1) := by decide +kernel
theorem dL_law_322 : decode cL_law 322 = .ok (.i2l, 1) := by decide +kernel
theorem dL_law_323 : decode cL_law 323 = .ok (.ldc2_w 21, 3) := by decide +kernel
theorem dL_law_326 : decode cL_law 326 = .ok (.land, 1) := by decide +kernel
theorem dL_law_327 : decode cL_law 327 = .ok (.lor, 1) := by decide +kernel
theorem dL_law_328 : decode cL_law 328 = .ok (.invokevirtual 31, 3) := by decide +kernel
theorem dL_law_331 : decode cL_law 331 = .ok (.if_icmp .eq 956, 3) := by decide +kernel
theorem dL_law_334 : decode cL_law 334 = .ok (.iconst 0, 1) := by decide +kernel
theorem dL_law_335 : decode cL_law 335 = .ok (.ireturn, 1) := by decide +kernel
theorem dL_law_336 : decode cL_law 336 = .ok (.aload_n 1, 1) := by decide +kernel
theorem dL_law_337 : decode cL_law 337 = .ok (.aload_n 0, 1) := by decide +kernel
theorem dL_law_338 : decode cL_law 338 = .ok (.iload_n 3, 1) := by decide +kernel
theorem dL_law_339 : decode cL_law 339 = .ok (.iconst 1, 1) := by decide +kernel
theorem dL_law_340 : decode cL_law 340 = .ok (.iadd, 1) := by decide +kernel
theorem dL_law_341 : decode cL_law 341 = .ok (.iaload, 1) := by decide +kernel
theorem dL_law_342 : decode cL_law 342 = .ok (.aload_n 0, 1) := by decide +kernel
theorem dL_law_343 : decode cL_law 343 = .ok (.iload_n 3, 1) := by decide +kernel
theorem dL_law_344 : decode cL_law 344 = .ok (.iconst 2, 1) := by decide +kernel
theorem dL_law_345 : decode cL_law 345 = .ok (.iadd, 1) := by decide +kernel
theorem dL_law_346 : decode cL_law 346 = .ok (.iaload, 1) := by decide +kernel
theorem dL_law_347 : decode cL_law 347 = .ok (.i2l, 1) := by decide +kernel
theorem dL_law_348 : decode cL_law 348 = .ok (.bipush 32, 2) := by decide +kernel
theorem dL_law_350 : decode cL_law 350 = .ok (.lshl, 1) := by decide +kernel
theorem dL_law_351 : decode cL_law 351 = .ok (.aload_n 0, 1) := by decide +kernel
theorem dL_law_352 : decode cL_law 352 = .ok (.iload_n 3, 1) := by decide +kernel
theorem dL_law_353 : decode cL_law 353 = .ok (.iconst 3, 1) := by decide +kernel
theorem dL_law_354 : decode cL_law 354 = .ok (.iadd, 1) := by decide +kernel
theorem dL_law_355 : decode cL_law 355 = .ok (.iaload, 1) := by decide +kernel
theorem dL_law_356 : decode cL_law 356 = .ok (.i2l, 1) := by decide +kernel
theorem dL_law_357 : decode cL_law 357 = .ok (.ldc2_w 21, 3) := by decide +kernel
theorem dL_law_360 : decode cL_law 360 = .ok (.land, 1) := by decide +kernel
theorem dL_law_361 : decode cL_law 361 = .ok (.lor, 1) := by decide +kernel
theorem dL_law_362 : decode cL_law 362 = .ok (.aload_n 0, 1) := by decide +kernel
theorem dL_law_363 : decode cL_law 363 = .ok (.iload_n 3, 1) := by decide +kernel
theorem dL_law_364 : decode cL_law 364 = .ok (.iconst 4, 1) := by decide +kernel
theorem dL_law_365 : decode cL_law 365 = .ok (.iadd, 1) := by decide +kernel
theorem dL_law_366 : decode cL_law 366 = .ok (.iaload, 1) := by decide +kernel
theorem dL_law_367 : decode cL_law 367 = .ok (.i2l, 1) := by decide +kernel
theorem dL_law_368 : decode cL_law 368 = .ok (.bipush 32, 2) := by decide +kernel
theorem dL_law_370 : decode cL_law 370 = .ok (.lshl, 1) := by decide +kernel
theorem dL_law_371 : decode cL_law 371 = .ok (.aload_n 0, 1) := by decide +kernel
theorem dL_law_372 : decode cL_law 372 = .ok (.iload_n 3, 1) := by decide +kernel
theorem dL_law_373 : decode cL_law 373 = .ok (.iconst 5, 1) := by decide +kernel
theorem dL_law_374 : decode cL_law 374 = .ok (.iadd, 1) := by decide +kernel
theorem dL_law_375 : decode cL_law 375 = .ok (.iaload, 1) := by decide +kernel
theorem dL_law_376 : decode cL_law 376 = .ok (.i2l, 1) := by decide +kernel
theorem dL_law_377 : decode cL_law 377 = .ok (.ldc2_w 21, 3) := by decide +kernel
theorem dL_law_380 : decode cL_law 380 = .ok (.land, 1) := by decide +kernel
theorem dL_law_381 : decode cL_law 381 = .ok (.lor, 1) := by decide +kernel
theorem dL_law_382 : decode cL_law 382 = .ok (.invokevirtual 32, 3) := by decide +kernel
theorem dL_law_385 : decode cL_law 385 = .ok (.aload_n 2, 1) := by decide +kernel
theorem dL_law_386 : decode cL_law 386 = .ok (.aload_n 0, 1) := by decide +kernel
theorem dL_law_387 : decode cL_law 387 = .ok (.iload_n 3, 1) := by decide +kernel
theorem dL_law_388 : decode cL_law 388 = .ok (.iconst 1, 1) := by decide +kernel
theorem dL_law_389 : decode cL_law 389 = .ok (.iadd, 1) := by decide +kernel
theorem dL_law_390 : decode cL_law 390 = .ok (.iaload, 1) := by decide +kernel
theorem dL_law_391 : decode cL_law 391 = .ok (.aload_n 0, 1) := by decide +kernel
theorem dL_law_392 : decode cL_law 392 = .ok (.iload_n 3, 1) := by decide +kernel
theorem dL_law_393 : decode cL_law 393 = .ok (.iconst 2, 1) := by decide +kernel
theorem dL_law_394 : decode cL_law 394 = .ok (.iadd, 1) := by decide +kernel
theorem dL_law_395 : decode cL_law 395 = .ok (.iaload, 1) := by decide +kernel
theorem dL_law_396 : decode cL_law 396 = .ok (.i2l, 1) := by decide +kernel
theorem dL_law_397 : decode cL_law 397 = .ok (.bipush 32, 2) := by decide +kernel
theorem dL_law_399 : decode cL_law 399 = .ok (.lshl, 1) := by decide +kernel
theorem dL_law_400 : decode cL_law 400 = .ok (.aload_n 0, 1) := by decide +kernel
theorem dL_law_401 : decode cL_law 401 = .ok (.iload_n 3, 1) := by decide +kernel
theorem dL_law_402 : decode cL_law 402 = .ok (.iconst 3, 1) := by decide +kernel
theorem dL_law_403 : decode cL_law 403 = .ok (.iadd, 1) := by decide +kernel
theorem dL_law_404 : decode cL_law 404 = .ok (.iaload, 1) := by decide +kernel
theorem dL_law_405 : decode cL_law 405 = .ok (.i2l, 1) := by decide +kernel
theorem dL_law_406 : decode cL_law 406 = .ok (.ldc2_w 21, 3) := by decide +kernel
theorem dL_law_409 : decode cL_law 409 = .ok (.land, 1) := by decide +kernel
theorem dL_law_410 : decode cL_law 410 = .ok (.lor, 1) := by decide +kernel
theorem dL_law_411 : decode cL_law 411 = .ok (.aload_n 0, 1) := by decide +kernel
theorem dL_law_412 : decode cL_law 412 = .ok (.iload_n 3, 1) := by decide +kernel
theorem dL_law_413 : decode cL_law 413 = .ok (.iconst 4, 1) := by decide +kernel
theorem dL_law_414 : decode cL_law 414 = .ok (.iadd, 1) := by decide +kernel
theorem dL_law_415 : decode cL_law 415 = .ok (.iaload, 1) := by decide +kernel
theorem dL_law_416 : decode cL_law 416 = .ok (.i2l, 1) := by decide +kernel
theorem dL_law_417 : decode cL_law 417 = .ok (.bipush 32, 2) := by decide +kernel
theorem dL_law_419 : decode cL_law 419 = .ok (.lshl, 1) := by decide +kernel
theorem dL_law_420 : decode cL_law 420 = .ok (.aload_n 0, 1) := by decide +kernel
theorem dL_law_421 : decode cL_law 421 = .ok (.iload_n 3, 1) := by decide +kernel
theorem dL_law_422 : decode cL_law 422 = .ok (.iconst 5, 1) := by decide +kernel
theorem dL_law_423 : decode cL_law 423 = .ok (.iadd, 1) := by decide +kernel
theorem dL_law_424 : decode cL_law 424 = .ok (.iaload, 1) := by decide +kernel
theorem dL_law_425 : decode cL_law 425 = .ok (.i2l, 1) := by decide +kernel
theorem dL_law_426 : decode cL_law 426 = .ok (.ldc2_w 21, 3) := by decide +kernel
theorem dL_law_429 : decode cL_law 429 = .ok (.land, 1) := by decide +kernel
theorem dL_law_430 : decode cL_law 430 = .ok (.lor, 1) := by decide +kernel
theorem dL_law_431 : decode cL_law 431 = .ok (.invokevirtual 36, 3) := by decide +kernel
theorem dL_law_434 : decode cL_law 434 = .ok (.if_icmp .eq 853, 3) := by decide +kernel
theorem dL_law_437 : decode cL_law 437 = .ok (.iconst 0, 1) := by decide +kernel
theorem dL_law_438 : decode cL_law 438 = .ok (.ireturn, 1) := by decide +kernel
theorem dL_law_439 : decode cL_law 439 = .ok (.aload_n 1, 1) := by decide +kernel
theorem dL_law_440 : decode cL_law 440 = .ok (.aload_n 0, 1) := by decide +kernel
theorem dL_law_441 : decode cL_law 441 = .ok (.iload_n 3, 1) := by decide +kernel
theorem dL_law_442 : decode cL_law 442 = .ok (.iconst 1, 1) := by decide +kernel
theorem dL_law_443 : decode cL_law 443 = .ok (.iadd, 1) := by decide +kernel
theorem dL_law_444 : decode cL_law 444 = .ok (.iaload, 1) := by decide +kernel
theorem dL_law_445 : decode cL_law 445 = .ok (.aload_n 0, 1) := by decide +kernel
theorem dL_law_446 : decode cL_law 446 = .ok (.iload_n 3, 1) := by decide +kernel
theorem dL_law_447 : decode cL_law 447 = .ok (.iconst 2, 1) := by decide +kernel
theorem dL_law_448 : decode cL_law 448 = .ok (.iadd, 1) := by decide +kernel
theorem dL_law_449 : decode cL_law 449 = .ok (.iaload, 1) := by decide +kernel
theorem dL_law_450 : decode cL_law 450 = .ok (.aload_n 0, 1) := by decide +kernel
theorem dL_law_451 : decode cL_law 451 = .ok (.iload_n 3, 1) := by decide +kernel
theorem dL_law_452 : decode cL_law 452 = .ok (.iconst 3, 1) := by decide +kernel
theorem dL_law_453 : decode cL_law 453 = .ok (.iadd, 1) := by decide +kernel
theorem dL_law_454 : decode cL_law 454 = .ok (.iaload, 1) := by decide +kernel
theorem dL_law_455 : decode cL_law 455 = .ok (.i2l, 1) := by decide +kernel
theorem dL_law_456 : decode cL_law 456 = .ok (.bipush 32, 2) := by decide +kernel
theorem dL_law_458 : decode cL_law 458 = .ok (.lshl, 1) := by decide +kernel
theorem dL_law_459 : decode cL_law 459 = .ok (.aload_n 0, 1) := by decide +kernel
theorem dL_law_460 : decode cL_law 460 = .ok (.iload_n 3, 1) := by decide +kernel
theorem dL_law_461 : decode cL_law 461 = .ok (.iconst 4, 1) := by decide +kernel
theorem dL_law_462 : decode cL_law 462 = .ok (.iadd, 1) := by decide +kernel
theorem dL_law_463 : decode cL_law 463 = .ok (.iaload, 1) := by decide +kernel
theorem dL_law_464 : decode cL_law 464 = .ok (.i2l, 1) := by decide +kernel
theorem dL_law_465 : decode cL_law 465 = .ok (.ldc2_w 21, 3) := by decide +kernel
theorem dL_law_468 : decode cL_law 468 = .ok (.land, 1) := by decide +kernel
theorem dL_law_469 : decode cL_law 469 = .ok (.lor, 1) := by decide +kernel
theorem dL_law_470 : decode cL_law 470 = .ok (.invokevirtual 37, 3) := by decide +kernel
theorem dL_law_473 : decode cL_law 473 = .ok (.aload_n 2, 1) := by decide +kernel
theorem dL_law_474 : decode cL_law 474 = .ok (.aload_n 0, 1) := by decide +kernel
theorem dL_law_475 : decode cL_law 475 = .ok (.iload_n 3, 1) := by decide +kernel
theorem dL_law_476 : decode cL_law 476 = .ok (.iconst 1, 1) := by decide +kernel
theorem dL_law_477 : decode cL_law 477 = .ok (.iadd, 1) := by decide +kernel
theorem dL_law_478 : decode cL_law 478 = .ok (.iaload, 1) := by decide +kernel
theorem dL_law_479 : decode cL_law 479 = .ok (.aload_n 0, 1) := by decide +kernel
theorem dL_law_480 : decode cL_law 480 = .ok (.iload_n 3, 1) := by decide +kernel
theorem dL_law_481 : decode cL_law 481 = .ok (.iconst 2, 1) := by decide +kernel
theorem dL_law_482 : decode cL_law 482 = .ok (.iadd, 1) := by decide +kernel
theorem dL_law_483 : decode cL_law 483 = .ok (.iaload, 1) := by decide +kernel
theorem dL_law_484 : decode cL_law 484 = .ok (.aload_n 0, 1) := by decide +kernel
theorem dL_law_485 : decode cL_law 485 = .ok (.iload_n 3, 1) := by decide +kernel
theorem dL_law_486 : decode cL_law 486 = .ok (.iconst 3, 1) := by decide +kernel
theorem dL_law_487 : decode cL_law 487 = .ok (.iadd, 1) := by decide +kernel
theorem dL_law_488 : decode cL_law 488 = .ok (.iaload, 1) := by decide +kernel
theorem dL_law_489 : decode cL_law 489 = .ok (.i2l, 1) := by decide +kernel
theorem dL_law_490 : decode cL_law 490 = .ok (.bipush 32, 2) := by decide +kernel
theorem dL_law_492 : decode cL_law 492 = .ok (.lshl, 1) := by decide +kernel
theorem dL_law_493 : decode cL_law 493 = .ok (.aload_n 0, 1) := by decide +kernel
theorem dL_law_494 : decode cL_law 494 = .ok (.iload_n 3, 1) := by decide +kernel
theorem dL_law_495 : decode cL_law 495 = .ok (.iconst 4, 1) := by decide +kernel
theorem dL_law_496 : decode cL_law 496 = .ok (.iadd, 1) := by decide +kernel
theorem dL_law_497 : decode cL_law 497 = .ok (.iaload, 1) := by decide +kernel
theorem dL_law_498 : decode cL_law 498 = .ok (.i2l, 1) := by decide +kernel
theorem dL_law_499 : decode cL_law 499 = .ok (.ldc2_w 21, 3) := by decide +kernel
theorem dL_law_502 : decode cL_law 502 = .ok (.land, 1) := by decide +kernel
theorem dL_law_503 : decode cL_law 503 = .ok (.lor, 1) := by decide +kernel
theorem dL_law_504 : decode cL_law 504 = .ok (.invokevirtual 41, 3) := by decide +kernel
theorem dL_law_507 : decode cL_law 507 = .ok (.if_icmp .eq 780, 3) := by decide +kernel
theorem dL_law_510 : decode cL_law 510 = .ok (.iconst 0, 1) := by decide +kernel
theorem dL_law_511 : decode cL_law 511 = .ok (.ireturn, 1) := by decide +kernel
theorem dL_law_512 : decode cL_law 512 = .ok (.aload_n 1, 1) := by decide +kernel
theorem dL_law_513 : decode cL_law 513 = .ok (.aload_n 0, 1) := by decide +kernel
theorem dL_law_514 : decode cL_law 514 = .ok (.iload_n 3, 1) := by decide +kernel
theorem dL_law_515 : decode cL_law 515 = .ok (.iconst 1, 1) := by decide +kernel
theorem dL_law_516 : decode cL_law 516 = .ok (.iadd, 1) := by decide +kernel
theorem dL_law_517 : decode cL_law 517 = .ok (.iaload, 1) := by decide +kernel
theorem dL_law_518 : decode cL_law 518 = .ok (.i2l, 1) := by decide +kernel
theorem dL_law_519 : decode cL_law 519 = .ok (.bipush 32, 2) := by decide +kernel
theorem dL_law_521 : decode cL_law 521 = .ok (.lshl, 1) := by decide +kernel
theorem dL_law_522 : decode cL_law 522 = .ok (.aload_n 0, 1) := by decide +kernel
theorem dL_law_523 : decode cL_law 523 = .ok (.iload_n 3, 1) := by decide +kernel
theorem dL_law_524 : decode cL_law 524 = .ok (.iconst 2, 1) := by decide +kernel
theorem dL_law_525 : decode cL_law 525 = .ok (.iadd, 1) := by decide +kernel
theorem dL_law_526 : decode cL_law 526 = .ok (.iaload, 1) := by decide +kernel
theorem dL_law_527 : decode cL_law 527 = .ok (.i2l, 1) := by decide +kernel
theorem dL_law_528 : decode cL_law 528 = .ok (.ldc2_w 21, 3) := by decide +kernel
theorem dL_law_531 : decode cL_law 531 = .ok (.land, 1) := by decide +kernel
theorem dL_law_532 : decode cL_law 532 = .ok (.lor, 1) := by decide +kernel
theorem dL_law_533 : decode cL_law 533 = .ok (.invokevirtual 42, 3) := by decide +kernel
theorem dL_law_536 : decode cL_law 536 = .ok (.aload_n 2, 1) := by decide +kernel
theorem dL_law_537 : decode cL_law 537 = .ok (.aload_n 0, 1) := by decide +kernel
theorem dL_law_538 : decode cL_law 538 = .ok (.iload_n 3, 1) := by decide +kernel
theorem dL_law_539 : decode cL_law 539 = .ok (.iconst 1, 1) := by decide +kernel
theorem dL_law_540 : decode cL_law 540 = .ok (.iadd, 1) := by decide +kernel
theorem dL_law_541 : decode cL_law 541 = .ok (.iaload, 1) := by decide +kernel
theorem dL_law_542 : decode cL_law 542 = .ok (.i2l, 1) := by decide +kernel
theorem dL_law_543 : decode cL_law 543 = .ok (.bipush 32, 2) := by decide +kernel
theorem dL_law_545 : decode cL_law 545 = .ok (.lshl, 1) := by decide +kernel
theorem dL_law_546 : decode cL_law 546 = .ok (.aload_n 0, 1) := by decide +kernel
theorem dL_law_547 : decode cL_law 547 = .ok (.iload_n 3, 1) := by decide +kernel
theorem dL_law_548 : decode cL_law 548 = .ok (.iconst 2, 1) := by decide +kernel
theorem dL_law_549 : decode cL_law 549 = .ok (.iadd, 1) := by decide +kernel
theorem dL_law_550 : decode cL_law 550 = .ok (.iaload, 1) := by decide +kernel
theorem dL_law_551 : decode cL_law 551 = .ok (.i2l, 1) := by decide +kernel
theorem dL_law_552 : decode cL_law 552 = .ok (.ldc2_w 21, 3) := by decide +kernel
theorem dL_law_555 : decode cL_law 555 = .ok (.land, 1) := by decide +kernel
theorem dL_law_556 : decode cL_law 556 = .ok (.lor, 1) := by decide +kernel
theorem dL_law_557 : decode cL_law 557 = .ok (.invokevirtual 46, 3) := by decide +kernel
theorem dL_law_560 : decode cL_law 560 = .ok (.if_icmp .eq 727, 3) := by decide +kernel
theorem dL_law_563 : decode cL_law 563 = .ok (.iconst 0, 1) := by decide +kernel
theorem dL_law_564 : decode cL_law 564 = .ok (.ireturn, 1) := by decide +kernel
theorem dL_law_565 : decode cL_law 565 = .ok (.aload_n 1, 1) := by decide +kernel
theorem dL_law_566 : decode cL_law 566 = .ok (.aload_n 0, 1) := by decide +kernel
theorem dL_law_567 : decode cL_law 567 = .ok (.iload_n 3, 1) := by decide +kernel
theorem dL_law_568 : decode cL_law 568 = .ok (.iconst 1, 1) := by decide +kernel
theorem dL_law_569 : decode cL_law 569 = .ok (.iadd, 1) := by decide +kernel
theorem dL_law_570 : decode cL_law 570 = .ok (.iaload, 1) := by decide +kernel
theorem dL_law_571 : decode cL_law 571 = .ok (.invokevirtual 47, 3) := by decide +kernel
theorem dL_law_574 : decode cL_law 574 = .ok (.aload_n 2, 1) := by decide +kernel
theorem dL_law_575 : decode cL_law 575 = .ok (.aload_n 0, 1) := by decide +kernel
theorem dL_law_576 : decode cL_law 576 = .ok (.iload_n 3, 1) := by decide +kernel
theorem dL_law_577 : decode cL_law 577 = .ok (.iconst 1, 1) := by decide +kernel
theorem dL_law_578 : decode cL_law 578 = .ok (.iadd, 1) := by decide +kernel
theorem dL_law_579 : decode cL_law 579 = .ok (.iaload, 1) := by decide +kernel
theorem dL_law_580 : decode cL_law 580 = .ok (.invokevirtual 51, 3) := by decide +kernel
theorem dL_law_583 : decode cL_law 583 = .ok (.if_icmp .eq 704, 3) := by decide +kernel
theorem dL_law_586 : decode cL_law 586 = .ok (.iconst 0, 1) := by decide +kernel
theorem dL_law_587 : decode cL_law 587 = .ok (.ireturn, 1) := by decide +kernel
theorem dL_law_588 : decode cL_law 588 = .ok (.aload_n 1, 1) := by decide +kernel
theorem dL_law_589 : decode cL_law 589 = .ok (.aload_n 0, 1) := by decide +kernel
theorem dL_law_590 : decode cL_law 590 = .ok (.iload_n 3, 1) := by decide +kernel
theorem dL_law_591 : decode cL_law 591 = .ok (.iconst 1, 1) := by decide +kernel
theorem dL_law_592 : decode cL_law 592 = .ok (.iadd, 1) := by decide +kernel
theorem dL_law_593 : decode cL_law 593 = .ok (.iaload, 1) := by decide +kernel
theorem dL_law_594 : decode cL_law 594 = .ok (.invokevirtual 52, 3) := by decide +kernel
theorem dL_law_597 : decode cL_law 597 = .ok (.aload_n 2, 1) := by decide +kernel
theorem dL_law_598 : decode cL_law 598 = .ok (.aload_n 0, 1) := by decide +kernel
theorem dL_law_599 : decode cL_law 599 = .ok (.iload_n 3, 1) := by decide +kernel
theorem dL_law_600 : decode cL_law 600 = .ok (.iconst 1, 1) := by decide +kernel
theorem dL_law_601 : decode cL_law 601 = .ok (.iadd, 1) := by decide +kernel
theorem dL_law_602 : decode cL_law 602 = .ok (.iaload, 1) := by decide +kernel
theorem dL_law_603 : decode cL_law 603 = .ok (.invokevirtual 55, 3) := by decide +kernel
theorem dL_law_606 : decode cL_law 606 = .ok (.if_icmp .eq 681, 3) := by decide +kernel
theorem dL_law_609 : decode cL_law 609 = .ok (.iconst 0, 1) := by decide +kernel
theorem dL_law_610 : decode cL_law 610 = .ok (.ireturn, 1) := by decide +kernel
theorem dL_law_611 : decode cL_law 611 = .ok (.aload_n 1, 1) := by decide +kernel
theorem dL_law_612 : decode cL_law 612 = .ok (.aload_n 0, 1) := by decide +kernel
theorem dL_law_613 : decode cL_law 613 = .ok (.iload_n 3, 1) := by decide +kernel
theorem dL_law_614 : decode cL_law 614 = .ok (.iconst 1, 1) := by decide +kernel
theorem dL_law_615 : decode cL_law 615 = .ok (.iadd, 1) := by decide +kernel
theorem dL_law_616 : decode cL_law 616 = .ok (.iaload, 1) := by decide +kernel
theorem dL_law_617 : decode cL_law 617 = .ok (.aload_n 0, 1) := by decide +kernel
theorem dL_law_618 : decode cL_law 618 = .ok (.iload_n 3, 1) := by decide +kernel
theorem dL_law_619 : decode cL_law 619 = .ok (.iconst 2, 1) := by decide +kernel
theorem dL_law_620 : decode cL_law 620 = .ok (.iadd, 1) := by decide +kernel
theorem dL_law_621 : decode cL_law 621 = .ok (.iaload, 1) := by decide +kernel
theorem dL_law_622 : decode cL_law 622 = .ok (.invokevirtual 56, 3) := by decide +kernel
theorem dL_law_625 : decode cL_law 625 = .ok (.aload_n 2, 1) := by decide +kernel
theorem dL_law_626 : decode cL_law 626 = .ok (.aload_n 0, 1) := by decide +kernel
theorem dL_law_627 : decode cL_law 627 = .ok (.iload_n 3, 1) := by decide +kernel
theorem dL_law_628 : decode cL_law 628 = .ok (.iconst 1, 1) := by decide +kernel
theorem dL_law_629 : decode cL_law 629 = .ok (.iadd, 1) := by decide +kernel
theorem dL_law_630 : decode cL_law 630 = .ok (.iaload, 1) := by decide +kernel
theorem dL_law_631 : decode cL_law 631 = .ok (.aload_n 0, 1) := by decide +kernel
theorem dL_law_632 : decode cL_law 632 = .ok (.iload_n 3, 1) := by decide +kernel
theorem dL_law_633 : decode cL_law 633 = .ok (.iconst 2, 1) := by decide +kernel
theorem dL_law_634 : decode cL_law 634 = .ok (.iadd, 1) := by decide +kernel
theorem dL_law_635 : decode cL_law 635 = .ok (.iaload, 1) := by decide +kernel
theorem dL_law_636 : decode cL_law 636 = .ok (.invokevirtual 60, 3) := by decide +kernel
theorem dL_law_639 : decode cL_law 639 = .ok (.if_icmp .eq 648, 3) := by decide +kernel
theorem dL_law_642 : decode cL_law 642 = .ok (.iconst 0, 1) := by decide +kernel
theorem dL_law_643 : decode cL_law 643 = .ok (.ireturn, 1) := by decide +kernel
theorem dL_law_644 : decode cL_law 644 = .ok (.aload_n 1, 1) := by decide +kernel
theorem dL_law_645 : decode cL_law 645 = .ok (.aload_n 0, 1) := by decide +kernel
theorem dL_law_646 : decode cL_law 646 = .ok (.iload_n 3, 1) := by decide +kernel
theorem dL_law_647 : decode cL_law 647 = .ok (.iconst 1, 1) := by decide +kernel
theorem dL_law_648 : decode cL_law 648 = .ok (.iadd, 1) := by decide +kernel
theorem dL_law_649 : decode cL_law 649 = .ok (.iaload, 1) := by decide +kernel
theorem dL_law_650 : decode cL_law 650 = .ok (.i2l, 1) := by decide +kernel
theorem dL_law_651 : decode cL_law 651 = .ok (.bipush 32, 2) := by decide +kernel
theorem dL_law_653 : decode cL_law 653 = .ok (.lshl, 1) := by decide +kernel
theorem dL_law_654 : decode cL_law 654 = .ok (.aload_n 0, 1) := by decide +kernel
theorem dL_law_655 : decode cL_law 655 = .ok (.iload_n 3, 1) := by decide +kernel
theorem dL_law_656 : decode cL_law 656 = .ok (.iconst 2, 1) := by decide +kernel
theorem dL_law_657 : decode cL_law 657 = .ok (.iadd, 1) := by decide +kernel
theorem dL_law_658 : decode cL_law 658 = .ok (.iaload, 1) := by decide +kernel
theorem dL_law_659 : decode cL_law 659 = .ok (.i2l, 1) := by decide +kernel
theorem dL_law_660 : decode cL_law 660 = .ok (.ldc2_w 21, 3) := by decide +kernel
theorem dL_law_663 : decode cL_law 663 = .ok (.land, 1) := by decide +kernel
theorem dL_law_664 : decode cL_law 664 = .ok (.lor, 1) := by decide +kernel
theorem dL_law_665 : decode cL_law 665 = .ok (.invokevirtual 61, 3) := by decide +kernel
theorem dL_law_668 : decode cL_law 668 = .ok (.aload_n 2, 1) := by decide +kernel
theorem dL_law_669 : decode cL_law 669 = .ok (.aload_n 0, 1) := by decide +kernel
theorem dL_law_670 : decode cL_law 670 = .ok (.iload_n 3, 1) := by decide +kernel
theorem dL_law_671 : decode cL_law 671 = .ok (.iconst 1, 1) := by decide +kernel
theorem dL_law_672 : decode cL_law 672 = .ok (.iadd, 1) := by decide +kernel
theorem dL_law_673 : decode cL_law 673 = .ok (.iaload, 1) := by decide +kernel
theorem dL_law_674 : decode cL_law 674 = .ok (.i2l, 1) := by decide +kernel
theorem dL_law_675 : decode cL_law 675 = .ok (.bipush 32, 2) := by decide +kernel
theorem dL_law_677 : decode cL_law 677 = .ok (.lshl, 1) := by decide +kernel
theorem dL_law_678 : decode cL_law 678 = .ok (.aload_n 0, 1) := by decide +kernel
theorem dL_law_679 : decode cL_law 679 = .ok (.iload_n 3, 1) := by decide +kernel
theorem dL_law_680 : decode cL_law 680 = .ok (.iconst 2, 1) := by decide +kernel
theorem dL_law_681 : decode cL_law 681 = .ok (.iadd, 1) := by decide +kernel
theorem dL_law_682 : decode cL_law 682 = .ok (.iaload, 1) := by decide +kernel
theorem dL_law_683 : decode cL_law 683 = .ok (.i2l, 1) := by decide +kernel
theorem dL_law_684 : decode cL_law 684 = .ok (.ldc2_w 21, 3) := by decide +kernel
theorem dL_law_687 : decode cL_law 687 = .ok (.land, 1) := by decide +kernel
theorem dL_law_688 : decode cL_law 688 = .ok (.lor, 1) := by decide +kernel
theorem dL_law_689 : decode cL_law 689 = .ok (.invokevirtual 64, 3) := by decide +kernel
theorem dL_law_692 : decode cL_law 692 = .ok (.if_icmp .eq 595, 3) := by decide +kernel
theorem dL_law_695 : decode cL_law 695 = .ok (.iconst 0, 1) := by decide +kernel
theorem dL_law_696 : decode cL_law 696 = .ok (.ireturn, 1) := by decide +kernel
theorem dL_law_697 : decode cL_law 697 = .ok (.aload_n 1, 1) := by decide +kernel
theorem dL_law_698 : decode cL_law 698 = .ok (.aload_n 0, 1) := by decide +kernel
theorem dL_law_699 : decode cL_law 699 = .ok (.iload_n 3, 1) := by decide +kernel
theorem dL_law_700 : decode cL_law 700 = .ok (.iconst 1, 1) := by decide +kernel
theorem dL_law_701 : decode cL_law 701 = .ok (.iadd, 1) := by decide +kernel
theorem dL_law_702 : decode cL_law 702 = .ok (.iaload, 1) := by decide +kernel
theorem dL_law_703 : decode cL_law 703 = .ok (.invokevirtual 65, 3) := by decide +kernel
theorem dL_law_706 : decode cL_law 706 = .ok (.aload_n 2, 1) := by decide +kernel
theorem dL_law_707 : decode cL_law 707 = .ok (.aload_n 0, 1) := by decide +kernel
theorem dL_law_708 : decode cL_law 708 = .ok (.iload_n 3, 1) := by decide +kernel
theorem dL_law_709 : decode cL_law 709 = .ok (.iconst 1, 1) := by decide +kernel
theorem dL_law_710 : decode cL_law 710 = .ok (.iadd, 1) := by decide +kernel
theorem dL_law_711 : decode cL_law 711 = .ok (.iaload, 1) := by decide +kernel
theorem dL_law_712 : decode cL_law 712 = .ok (.invokevirtual 68, 3) := by decide +kernel
theorem dL_law_715 : decode cL_law 715 = .ok (.if_icmp .eq 572, 3) := by decide +kernel
theorem dL_law_718 : decode cL_law 718 = .ok (.iconst 0, 1) := by decide +kernel
theorem dL_law_719 : decode cL_law 719 = .ok (.ireturn, 1) := by decide +kernel
theorem dL_law_720 : decode cL_law 720 = .ok (.aload_n 1, 1) := by decide +kernel
theorem dL_law_721 : decode cL_law 721 = .ok (.invokevirtual 69, 3) := by decide +kernel
theorem dL_law_724 : decode cL_law 724 = .ok (.aload_n 2, 1) := by decide +kernel
theorem dL_law_725 : decode cL_law 725 = .ok (.invokevirtual 73, 3) := by decide +kernel
theorem dL_law_728 : decode cL_law 728 = .ok (.lcmp, 1) := by decide +kernel
theorem dL_law_729 : decode cL_law 729 = .ok (.ifCond .eq 558, 3) := by decide +kernel
theorem dL_law_732 : decode cL_law 732 = .ok (.iconst 0, 1) := by decide +kernel
theorem dL_law_733 : decode cL_law 733 = .ok (.ireturn, 1) := by decide +kernel
theorem dL_law_734 : decode cL_law 734 = .ok (.aload_n 1, 1) := by decide +kernel
theorem dL_law_735 : decode cL_law 735 = .ok (.invokevirtual 74, 3) := by decide +kernel
theorem dL_law_738 : decode cL_law 738 = .ok (.aload_n 2, 1) := by decide +kernel
theorem dL_law_739 : decode cL_law 739 = .ok (.invokevirtual 77, 3) := by decide +kernel
theorem dL_law_742 : decode cL_law 742 = .ok (.lcmp, 1) := by decide +kernel
theorem dL_law_743 : decode cL_law 743 = .ok (.ifCond .eq 544, 3) := by decide +kernel
theorem dL_law_746 : decode cL_law 746 = .ok (.iconst 0, 1) := by decide +kernel
theorem dL_law_747 : decode cL_law 747 = .ok (.ireturn, 1) := by decide +kernel
theorem dL_law_748 : decode cL_law 748 = .ok (.aload_n 1, 1) := by decide +kernel
theorem dL_law_749 : decode cL_law 749 = .ok (.aload_n 0, 1) := by decide +kernel
theorem dL_law_750 : decode cL_law 750 = .ok (.iload_n 3, 1) := by decide +kernel
theorem dL_law_751 : decode cL_law 751 = .ok (.iconst 1, 1) := by decide +kernel
theorem dL_law_752 : decode cL_law 752 = .ok (.iadd, 1) := by decide +kernel
theorem dL_law_753 : decode cL_law 753 = .ok (.iaload, 1) := by decide +kernel
theorem dL_law_754 : decode cL_law 754 = .ok (.aload_n 0, 1) := by decide +kernel
theorem dL_law_755 : decode cL_law 755 = .ok (.iload_n 3, 1) := by decide +kernel
theorem dL_law_756 : decode cL_law 756 = .ok (.iconst 2, 1) := by decide +kernel
theorem dL_law_757 : decode cL_law 757 = .ok (.iadd, 1) := by decide +kernel
theorem dL_law_758 : decode cL_law 758 = .ok (.iaload, 1) := by decide +kernel
theorem dL_law_759 : decode cL_law 759 = .ok (.invokevirtual 78, 3) := by decide +kernel
theorem dL_law_762 : decode cL_law 762 = .ok (.aload_n 2, 1) := by decide +kernel
theorem dL_law_763 : decode cL_law 763 = .ok (.aload_n 0, 1) := by decide +kernel
theorem dL_law_764 : decode cL_law 764 = .ok (.iload_n 3, 1) := by decide +kernel
theorem dL_law_765 : decode cL_law 765 = .ok (.iconst 1, 1) := by decide +kernel
theorem dL_law_766 : decode cL_law 766 = .ok (.iadd, 1) := by decide +kernel
theorem dL_law_767 : decode cL_law 767 = .ok (.iaload, 1) := by decide +kernel
theorem dL_law_768 : decode cL_law 768 = .ok (.aload_n 0, 1) := by decide +kernel
theorem dL_law_769 : decode cL_law 769 = .ok (.iload_n 3, 1) := by decide +kernel
theorem dL_law_770 : decode cL_law 770 = .ok (.iconst 2, 1) := by decide +kernel
theorem dL_law_771 : decode cL_law 771 = .ok (.iadd, 1) := by decide +kernel
theorem dL_law_772 : decode cL_law 772 = .ok (.iaload, 1) := by decide +kernel
theorem dL_law_773 : decode cL_law 773 = .ok (.invokevirtual 82, 3) := by decide +kernel
theorem dL_law_776 : decode cL_law 776 = .ok (.lcmp, 1) := by decide +kernel
theorem dL_law_777 : decode cL_law 777 = .ok (.ifCond .eq 510, 3) := by decide +kernel
theorem dL_law_780 : decode cL_law 780 = .ok (.iconst 0, 1) := by decide +kernel
theorem dL_law_781 : decode cL_law 781 = .ok (.ireturn, 1) := by decide +kernel
theorem dL_law_782 : decode cL_law 782 = .ok (.aload_n 1, 1) := by decide +kernel
theorem dL_law_783 : decode cL_law 783 = .ok (.aload_n 0, 1) := by decide +kernel
theorem dL_law_784 : decode cL_law 784 = .ok (.iload_n 3, 1) := by decide +kernel
theorem dL_law_785 : decode cL_law 785 = .ok (.iconst 1, 1) := by decide +kernel
theorem dL_law_786 : decode cL_law 786 = .ok (.iadd, 1) := by decide +kernel
theorem dL_law_787 : decode cL_law 787 = .ok (.iaload, 1) := by decide +kernel
theorem dL_law_788 : decode cL_law 788 = .ok (.invokevirtual 83, 3) := by decide +kernel
theorem dL_law_791 : decode cL_law 791 = .ok (.aload_n 2, 1) := by decide +kernel
theorem dL_law_792 : decode cL_law 792 = .ok (.aload_n 0, 1) := by decide +kernel
theorem dL_law_793 : decode cL_law 793 = .ok (.iload_n 3, 1) := by decide +kernel
theorem dL_law_794 : decode cL_law 794 = .ok (.iconst 1, 1) := by decide +kernel
theorem dL_law_795 : decode cL_law 795 = .ok (.iadd, 1) := by decide +kernel
theorem dL_law_796 : decode cL_law 796 = .ok (.iaload, 1) := by decide +kernel
theorem dL_law_797 : decode cL_law 797 = .ok (.invokevirtual 87, 3) := by decide +kernel
theorem dL_law_800 : decode cL_law 800 = .ok (.if_icmp .eq 487, 3) := by decide +kernel
theorem dL_law_803 : decode cL_law 803 = .ok (.iconst 0, 1) := by decide +kernel
theorem dL_law_804 : decode cL_law 804 = .ok (.ireturn, 1) := by decide +kernel
theorem dL_law_805 : decode cL_law 805 = .ok (.aload_n 1, 1) := by decide +kernel
theorem dL_law_806 : decode cL_law 806 = .ok (.invokevirtual 88, 3) := by decide +kernel
theorem dL_law_809 : decode cL_law 809 = .ok (.aload_n 2, 1) := by decide +kernel
theorem dL_law_810 : decode cL_law 810 = .ok (.invokevirtual 92, 3) := by decide +kernel
theorem dL_law_813 : decode cL_law 813 = .ok (.if_icmp .eq 474, 3) := by decide +kernel
theorem dL_law_816 : decode cL_law 816 = .ok (.iconst 0, 1) := by decide +kernel
theorem dL_law_817 : decode cL_law 817 = .ok (.ireturn, 1) := by decide +kernel
theorem dL_law_818 : decode cL_law 818 = .ok (.aload_n 1, 1) := by decide +kernel
theorem dL_law_819 : decode cL_law 819 = .ok (.aload_n 0, 1) := by decide +kernel
theorem dL_law_820 : decode cL_law 820 = .ok (.iload_n 3, 1) := by decide +kernel
theorem dL_law_821 : decode cL_law 821 = .ok (.iconst 1, 1) := by decide +kernel
theorem dL_law_822 : decode cL_law 822 = .ok (.iadd, 1) := by decide +kernel
theorem dL_law_823 : decode cL_law 823 = .ok (.iaload, 1) := by decide +kernel
theorem dL_law_824 : decode cL_law 824 = .ok (.invokevirtual 93, 3) := by decide +kernel
theorem dL_law_827 : decode cL_law 827 = .ok (.aload_n 2, 1) := by decide +kernel
theorem dL_law_828 : decode cL_law 828 = .ok (.aload_n 0, 1) := by decide +kernel
theorem dL_law_829 : decode cL_law 829 = .ok (.iload_n 3, 1) := by decide +kernel
theorem dL_law_830 : decode cL_law 830 = .ok (.iconst 1, 1) := by decide +kernel
theorem dL_law_831 : decode cL_law 831 = .ok (.iadd, 1) := by decide +kernel
theorem dL_law_832 : decode cL_law 832 = .ok (.iaload, 1) := by decide +kernel
theorem dL_law_833 : decode cL_law 833 = .ok (.invokevirtual 96, 3) := by decide +kernel
theorem dL_law_836 : decode cL_law 836 = .ok (.if_icmp .eq 451, 3) := by decide +kernel
theorem dL_law_839 : decode cL_law 839 = .ok (.iconst 0, 1) := by decide +kernel
theorem dL_law_840 : decode cL_law 840 = .ok (.ireturn, 1) := by decide +kernel
theorem dL_law_841 : decode cL_law 841 = .ok (.aload_n 1, 1) := by decide +kernel
theorem dL_law_842 : decode cL_law 842 = .ok (.aload_n 0, 1) := by decide +kernel
theorem dL_law_843 : decode cL_law 843 = .ok (.iload_n 3, 1) := by decide +kernel
theorem dL_law_844 : decode cL_law 844 = .ok (.iconst 1, 1) := by decide +kernel
theorem dL_law_845 : decode cL_law 845 = .ok (.iadd, 1) := by decide +kernel
theorem dL_law_846 : decode cL_law 846 = .ok (.iaload, 1) := by decide +kernel
theorem dL_law_847 : decode cL_law 847 = .ok (.aload_n 0, 1) := by decide +kernel
theorem dL_law_848 : decode cL_law 848 = .ok (.iload_n 3, 1) := by decide +kernel
theorem dL_law_849 : decode cL_law 849 = .ok (.iconst 2, 1) := by decide +kernel
theorem dL_law_850 : decode cL_law 850 = .ok (.iadd, 1) := by decide +kernel
theorem dL_law_851 : decode cL_law 851 = .ok (.iaload, 1) := by decide +kernel
theorem dL_law_852 : decode cL_law 852 = .ok (.invokevirtual 97, 3) := by decide +kernel
theorem dL_law_855 : decode cL_law 855 = .ok (.aload_n 2, 1) := by decide +kernel
theorem dL_law_856 : decode cL_law 856 = .ok (.aload_n 0, 1) := by decide +kernel
theorem dL_law_857 : decode cL_law 857 = .ok (.iload_n 3, 1) := by decide +kernel
theorem dL_law_858 : decode cL_law 858 = .ok (.iconst 1, 1) := by decide +kernel
theorem dL_law_859 : decode cL_law 859 = .ok (.iadd, 1) := by decide +kernel
theorem dL_law_860 : decode cL_law 860 = .ok (.iaload, 1) := by decide +kernel
theorem dL_law_861 : decode cL_law 861 = .ok (.aload_n 0, 1) := by decide +kernel
theorem dL_law_862 : decode cL_law 862 = .ok (.iload_n 3, 1) := by decide +kernel
theorem dL_law_863 : decode cL_law 863 = .ok (.iconst 2, 1) := by decide +kernel
theorem dL_law_864 : decode cL_law 864 = .ok (.iadd, 1) := by decide +kernel
theorem dL_law_865 : decode cL_law 865 = .ok (.iaload, 1) := by decide +kernel
theorem dL_law_866 : decode cL_law 866 = .ok (.invokevirtual 100, 3) := by decide +kernel
theorem dL_law_869 : decode cL_law 869 = .ok (.lcmp, 1) := by decide +kernel
theorem dL_law_870 : decode cL_law 870 = .ok (.ifCond .eq 417, 3) := by decide +kernel
theorem dL_law_873 : decode cL_law 873 = .ok (.iconst 0, 1) := by decide +kernel
theorem dL_law_874 : decode cL_law 874 = .ok (.ireturn, 1) := by decide +kernel
theorem dL_law_875 : decode cL_law 875 = .ok (.aload_n 1, 1) := by decide +kernel
theorem dL_law_876 : decode cL_law 876 = .ok (.aload_n 0, 1) := by decide +kernel
theorem dL_law_877 : decode cL_law 877 = .ok (.iload_n 3, 1) := by decide +kernel
theorem dL_law_878 : decode cL_law 878 = .ok (.iconst 1, 1) := by decide +kernel
theorem dL_law_879 : decode cL_law 879 = .ok (.iadd, 1) := by decide +kernel
theorem dL_law_880 : decode cL_law 880 = .ok (.iaload, 1) := by decide +kernel
theorem dL_law_881 : decode cL_law 881 = .ok (.aload_n 0, 1) := by decide +kernel
theorem dL_law_882 : decode cL_law 882 = .ok (.iload_n 3, 1) := by decide +kernel
theorem dL_law_883 : decode cL_law 883 = .ok (.iconst 2, 1) := by decide +kernel
theorem dL_law_884 : decode cL_law 884 = .ok (.iadd, 1) := by decide +kernel
theorem dL_law_885 : decode cL_law 885 = .ok (.iaload, 1) := by decide +kernel
theorem dL_law_886 : decode cL_law 886 = .ok (.aload_n 0, 1) := by decide +kernel
theorem dL_law_887 : decode cL_law 887 = .ok (.iload_n 3, 1) := by decide +kernel
theorem dL_law_888 : decode cL_law 888 = .ok (.iconst 3, 1) := by decide +kernel
theorem dL_law_889 : decode cL_law 889 = .ok (.iadd, 1) := by decide +kernel
theorem dL_law_890 : decode cL_law 890 = .ok (.iaload, 1) := by decide +kernel
theorem dL_law_891 : decode cL_law 891 = .ok (.i2l, 1) := by decide +kernel
theorem dL_law_892 : decode cL_law 892 = .ok (.bipush 32, 2) := by decide +kernel
theorem dL_law_894 : decode cL_law 894 = .ok (.lshl, 1) := by decide +kernel
theorem dL_law_895 : decode cL_law 895 = .ok (.aload_n 0, 1) := by decide +kernel
theorem dL_law_896 : decode cL_law 896 = .ok (.iload_n 3, 1) := by decide +kernel
theorem dL_law_897 : decode cL_law 897 = .ok (.iconst 4, 1) := by decide +kernel
theorem dL_law_898 : decode cL_law 898 = .ok (.iadd, 1) := by decide +kernel
theorem dL_law_899 : decode cL_law 899 = .ok (.iaload, 1) := by decide +kernel
theorem dL_law_900 : decode cL_law 900 = .ok (.i2l, 1) := by decide +kernel
theorem dL_law_901 : decode cL_law 901 = .ok (.ldc2_w 21, 3) := by decide +kernel
theorem dL_law_904 : decode cL_law 904 = .ok (.land, 1) := by decide +kernel
theorem dL_law_905 : decode cL_law 905 = .ok (.lor, 1) := by decide +kernel
theorem dL_law_906 : decode cL_law 906 = .ok (.invokevirtual 101, 3) := by decide +kernel
theorem dL_law_909 : decode cL_law 909 = .ok (.aload_n 2, 1) := by decide +kernel
theorem dL_law_910 : decode cL_law 910 = .ok (.aload_n 0, 1) := by decide +kernel
theorem dL_law_911 : decode cL_law 911 = .ok (.iload_n 3, 1) := by decide +kernel
theorem dL_law_912 : decode cL_law 912 = .ok (.iconst 1, 1) := by decide +kernel
theorem dL_law_913 : decode cL_law 913 = .ok (.iadd, 1) := by decide +kernel
theorem dL_law_914 : decode cL_law 914 = .ok (.iaload, 1) := by decide +kernel
theorem dL_law_915 : decode cL_law 915 = .ok (.aload_n 0, 1) := by decide +kernel
theorem dL_law_916 : decode cL_law 916 = .ok (.iload_n 3, 1) := by decide +kernel
theorem dL_law_917 : decode cL_law 917 = .ok (.iconst 2, 1) := by decide +kernel
theorem dL_law_918 : decode cL_law 918 = .ok (.iadd, 1) := by decide +kernel
theorem dL_law_919 : decode cL_law 919 = .ok (.iaload, 1) := by decide +kernel
theorem dL_law_920 : decode cL_law 920 = .ok (.aload_n 0, 1) := by decide +kernel
theorem dL_law_921 : decode cL_law 921 = .ok (.iload_n 3, 1) := by decide +kernel
theorem dL_law_922 : decode cL_law 922 = .ok (.iconst 3, 1) := by decide +kernel
theorem dL_law_923 : decode cL_law 923 = .ok (.iadd, 1) := by decide +kernel
theorem dL_law_924 : decode cL_law 924 = .ok (.iaload, 1) := by decide +kernel
theorem dL_law_925 : decode cL_law 925 = .ok (.i2l, 1) := by decide +kernel
theorem dL_law_926 : decode cL_law 926 = .ok (.bipush 32, 2) := by decide +kernel
theorem dL_law_928 : decode cL_law 928 = .ok (.lshl, 1) := by decide +kernel
theorem dL_law_929 : decode cL_law 929 = .ok (.aload_n 0, 1) := by decide +kernel
theorem dL_law_930 : decode cL_law 930 = .ok (.iload_n 3, 1) := by decide +kernel
theorem dL_law_931 : decode cL_law 931 = .ok (.iconst 4, 1) := by decide +kernel
theorem dL_law_932 : decode cL_law 932 = .ok (.iadd, 1) := by decide +kernel
theorem dL_law_933 : decode cL_law 933 = .ok (.iaload, 1) := by decide +kernel
theorem dL_law_934 : decode cL_law 934 = .ok (.i2l, 1) := by decide +kernel
theorem dL_law_935 : decode cL_law 935 = .ok (.ldc2_w 21, 3) := by decide +kernel
theorem dL_law_938 : decode cL_law 938 = .ok (.land, 1) := by decide +kernel
theorem dL_law_939 : decode cL_law 939 = .ok (.lor, 1) := by decide +kernel
theorem dL_law_940 : decode cL_law 940 = .ok (.invokevirtual 104, 3) := by decide +kernel
theorem dL_law_943 : decode cL_law 943 = .ok (.if_icmp .eq 344, 3) := by decide +kernel
theorem dL_law_946 : decode cL_law 946 = .ok (.iconst 0, 1) := by decide +kernel
theorem dL_law_947 : decode cL_law 947 = .ok (.ireturn, 1) := by decide +kernel
theorem dL_law_948 : decode cL_law 948 = .ok (.aload_n 1, 1) := by decide +kernel
theorem dL_law_949 : decode cL_law 949 = .ok (.aload_n 0, 1) := by decide +kernel
theorem dL_law_950 : decode cL_law 950 = .ok (.iload_n 3, 1) := by decide +kernel
theorem dL_law_951 : decode cL_law 951 = .ok (.iconst 1, 1) := by decide +kernel
theorem dL_law_952 : decode cL_law 952 = .ok (.iadd, 1) := by decide +kernel
theorem dL_law_953 : decode cL_law 953 = .ok (.iaload, 1) := by decide +kernel
theorem dL_law_954 : decode cL_law 954 = .ok (.aload_n 0, 1) := by decide +kernel
theorem dL_law_955 : decode cL_law 955 = .ok (.iload_n 3, 1) := by decide +kernel
theorem dL_law_956 : decode cL_law 956 = .ok (.iconst 2, 1) := by decide +kernel
theorem dL_law_957 : decode cL_law 957 = .ok (.iadd, 1) := by decide +kernel
theorem dL_law_958 : decode cL_law 958 = .ok (.iaload, 1) := by decide +kernel
theorem dL_law_959 : decode cL_law 959 = .ok (.invokevirtual 105, 3) := by decide +kernel
theorem dL_law_962 : decode cL_law 962 = .ok (.aload_n 2, 1) := by decide +kernel
theorem dL_law_963 : decode cL_law 963 = .ok (.aload_n 0, 1) := by decide +kernel
theorem dL_law_964 : decode cL_law 964 = .ok (.iload_n 3, 1) := by decide +kernel
theorem dL_law_965 : decode cL_law 965 = .ok (.iconst 1, 1) := by decide +kernel
theorem dL_law_966 : decode cL_law 966 = .ok (.iadd, 1) := by decide +kernel
theorem dL_law_967 : decode cL_law 967 = .ok (.iaload, 1) := by decide +kernel
theorem dL_law_968 : decode cL_law 968 = .ok (.aload_n 0, 1) := by decide +kernel
theorem dL_law_969 : decode cL_law 969 = .ok (.iload_n 3, 1) := by decide +kernel
theorem dL_law_970 : decode cL_law 970 = .ok (.iconst 2, 1) := by decide +kernel
theorem dL_law_971 : decode cL_law 971 = .ok (.iadd, 1) := by decide +kernel
theorem dL_law_972 : decode cL_law 972 = .ok (.iaload, 1) := by decide +kernel
theorem dL_law_973 : decode cL_law 973 = .ok (.invokevirtual 108, 3) := by decide +kernel
theorem dL_law_976 : decode cL_law 976 = .ok (.lcmp, 1) := by decide +kernel
theorem dL_law_977 : decode cL_law 977 = .ok (.ifCond .eq 310, 3) := by decide +kernel
theorem dL_law_980 : decode cL_law 980 = .ok (.iconst 0, 1) := by decide +kernel
theorem dL_law_981 : decode cL_law 981 = .ok (.ireturn, 1) := by decide +kernel
theorem dL_law_982 : decode cL_law 982 = .ok (.aload_n 1, 1) := by decide +kernel
theorem dL_law_983 : decode cL_law 983 = .ok (.aload_n 0, 1) := by decide +kernel
theorem dL_law_984 : decode cL_law 984 = .ok (.iload_n 3, 1) := by decide +kernel
theorem dL_law_985 : decode cL_law 985 = .ok (.iconst 1, 1) := by decide +kernel
theorem dL_law_986 : decode cL_law 986 = .ok (.iadd, 1) := by decide +kernel
theorem dL_law_987 : decode cL_law 987 = .ok (.iaload, 1) := by decide +kernel
theorem dL_law_988 : decode cL_law 988 = .ok (.i2l, 1) := by decide +kernel
theorem dL_law_989 : decode cL_law 989 = .ok (.bipush 32, 2) := by decide +kernel
theorem dL_law_991 : decode cL_law 991 = .ok (.lshl, 1) := by decide +kernel
theorem dL_law_992 : decode cL_law 992 = .ok (.aload_n 0, 1) := by decide +kernel
theorem dL_law_993 : decode cL_law 993 = .ok (.iload_n 3, 1) := by decide +kernel
theorem dL_law_994 : decode cL_law 994 = .ok (.iconst 2, 1) := by decide +kernel
theorem dL_law_995 : decode cL_law 995 = .ok (.iadd, 1) := by decide +kernel
theorem dL_law_996 : decode cL_law 996 = .ok (.iaload, 1) := by decide +kernel
theorem dL_law_997 : decode cL_law 997 = .ok (.i2l, 1) := by decide +kernel
theorem dL_law_998 : decode cL_law 998 = .ok (.ldc2_w 21, 3) := by decide +kernel
theorem dL_law_1001 : decode cL_law 1001 = .ok (.land, 1) := by decide +kernel
theorem dL_law_1002 : decode cL_law 1002 = .ok (.lor, 1) := by decide +kernel
theorem dL_law_1003 : decode cL_law 1003 = .ok (.aload_n 0, 1) := by decide +kernel
theorem dL_law_1004 : decode cL_law 1004 = .ok (.iload_n 3, 1) := by decide +kernel
theorem dL_law_1005 : decode cL_law 1005 = .ok (.iconst 3, 1) := by decide +kernel
theorem dL_law_1006 : decode cL_law 1006 = .ok (.iadd, 1) := by decide +kernel
theorem dL_law_1007 : decode cL_law 1007 = .ok (.iaload, 1) := by decide +kernel
theorem dL_law_1008 : decode cL_law 1008 = .ok (.i2l, 1) := by decide +kernel
theorem dL_law_1009 : decode cL_law 1009 = .ok (.bipush 32, 2) := by decide +kernel
theorem dL_law_1011 : decode cL_law 1011 = .ok (.lshl, 1) := by decide +kernel
theorem dL_law_1012 : decode cL_law 1012 = .ok (.aload_n 0, 1) := by decide +kernel
theorem dL_law_1013 : decode cL_law 1013 = .ok (.iload_n 3, 1) := by decide +kernel
theorem dL_law_1014 : decode cL_law 1014 = .ok (.iconst 4, 1) := by decide +kernel
theorem dL_law_1015 : decode cL_law 1015 = .ok (.iadd, 1) := by decide +kernel
theorem dL_law_1016 : decode cL_law 1016 = .ok (.iaload, 1) := by decide +kernel
theorem dL_law_1017 : decode cL_law 1017 = .ok (.i2l, 1) := by decide +kernel
theorem dL_law_1018 : decode cL_law 1018 = .ok (.ldc2_w 21, 3) := by decide +kernel
theorem dL_law_1021 : decode cL_law 1021 = .ok (.land, 1) := by decide +kernel
theorem dL_law_1022 : decode cL_law 1022 = .ok (.lor, 1) := by decide +kernel
theorem dL_law_1023 : decode cL_law 1023 = .ok (.invokevirtual 109, 3) := by decide +kernel
theorem dL_law_1026 : decode cL_law 1026 = .ok (.aload_n 2, 1) := by decide +kernel
theorem dL_law_1027 : decode cL_law 1027 = .ok (.aload_n 0, 1) := by decide +kernel
theorem dL_law_1028 : decode cL_law 1028 = .ok (.iload_n 3, 1) := by decide +kernel
theorem dL_law_1029 : decode cL_law 1029 = .ok (.iconst 1, 1) := by decide +kernel
theorem dL_law_1030 : decode cL_law 1030 = .ok (.iadd, 1) := by decide +kernel
theorem dL_law_1031 : decode cL_law 1031 = .ok (.iaload, 1) := by decide +kernel
theorem dL_law_1032 : decode cL_law 1032 = .ok (.i2l, 1) := by decide +kernel
theorem dL_law_1033 : decode cL_law 1033 = .ok (.bipush 32, 2) := by decide +kernel
theorem dL_law_1035 : decode cL_law 1035 = .ok (.lshl, 1) := by decide +kernel
theorem dL_law_1036 : decode cL_law 1036 = .ok (.aload_n 0, 1) := by decide +kernel
theorem dL_law_1037 : decode cL_law 1037 = .ok (.iload_n 3, 1) := by decide +kernel
theorem dL_law_1038 : decode cL_law 1038 = .ok (.iconst 2, 1) := by decide +kernel
theorem dL_law_1039 : decode cL_law 1039 = .ok (.iadd, 1) := by decide +kernel
theorem dL_law_1040 : decode cL_law 1040 = .ok (.iaload, 1) := by decide +kernel
theorem dL_law_1041 : decode cL_law 1041 = .ok (.i2l, 1) := by decide +kernel
theorem dL_law_1042 : decode cL_law 1042 = .ok (.ldc2_w 21, 3) := by decide +kernel
theorem dL_law_1045 : decode cL_law 1045 = .ok (.land, 1) := by decide +kernel
theorem dL_law_1046 : decode cL_law 1046 = .ok (.lor, 1) := by decide +kernel
theorem dL_law_1047 : decode cL_law 1047 = .ok (.aload_n 0, 1) := by decide +kernel
theorem dL_law_1048 : decode cL_law 1048 = .ok (.iload_n 3, 1) := by decide +kernel
theorem dL_law_1049 : decode cL_law 1049 = .ok (.iconst 3, 1) := by decide +kernel
theorem dL_law_1050 : decode cL_law 1050 = .ok (.iadd, 1) := by decide +kernel
theorem dL_law_1051 : decode cL_law 1051 = .ok (.iaload, 1) := by decide +kernel
theorem dL_law_1052 : decode cL_law 1052 = .ok (.i2l, 1) := by decide +kernel
theorem dL_law_1053 : decode cL_law 1053 = .ok (.bipush 32, 2) := by decide +kernel
theorem dL_law_1055 : decode cL_law 1055 = .ok (.lshl, 1) := by decide +kernel
theorem dL_law_1056 : decode cL_law 1056 = .ok (.aload_n 0, 1) := by decide +kernel
theorem dL_law_1057 : decode cL_law 1057 = .ok (.iload_n 3, 1) := by decide +kernel
theorem dL_law_1058 : decode cL_law 1058 = .ok (.iconst 4, 1) := by decide +kernel
theorem dL_law_1059 : decode cL_law 1059 = .ok (.iadd, 1) := by decide +kernel
theorem dL_law_1060 : decode cL_law 1060 = .ok (.iaload, 1) := by decide +kernel
theorem dL_law_1061 : decode cL_law 1061 = .ok (.i2l, 1) := by decide +kernel
theorem dL_law_1062 : decode cL_law 1062 = .ok (.ldc2_w 21, 3) := by decide +kernel
theorem dL_law_1065 : decode cL_law 1065 = .ok (.land, 1) := by decide +kernel
theorem dL_law_1066 : decode cL_law 1066 = .ok (.lor, 1) := by decide +kernel
theorem dL_law_1067 : decode cL_law 1067 = .ok (.invokevirtual 113, 3) := by decide +kernel
theorem dL_law_1070 : decode cL_law 1070 = .ok (.if_icmp .eq 217, 3) := by decide +kernel
theorem dL_law_1073 : decode cL_law 1073 = .ok (.iconst 0, 1) := by decide +kernel
theorem dL_law_1074 : decode cL_law 1074 = .ok (.ireturn, 1) := by decide +kernel
theorem dL_law_1075 : decode cL_law 1075 = .ok (.aload_n 1, 1) := by decide +kernel
theorem dL_law_1076 : decode cL_law 1076 = .ok (.invokevirtual 114, 3) := by decide +kernel
theorem dL_law_1079 : decode cL_law 1079 = .ok (.aload_n 2, 1) := by decide +kernel
theorem dL_law_1080 : decode cL_law 1080 = .ok (.invokevirtual 117, 3) := by decide +kernel
theorem dL_law_1083 : decode cL_law 1083 = .ok (.lcmp, 1) := by decide +kernel
theorem dL_law_1084 : decode cL_law 1084 = .ok (.ifCond .eq 203, 3) := by decide +kernel
theorem dL_law_1087 : decode cL_law 1087 = .ok (.iconst 0, 1) := by decide +kernel
theorem dL_law_1088 : decode cL_law 1088 = .ok (.ireturn, 1) := by decide +kernel
theorem dL_law_1089 : decode cL_law 1089 = .ok (.aload_n 1, 1) := by decide +kernel
theorem dL_law_1090 : decode cL_law 1090 = .ok (.aload_n 0, 1) := by decide +kernel
theorem dL_law_1091 : decode cL_law 1091 = .ok (.iload_n 3, 1) := by decide +kernel
theorem dL_law_1092 : decode cL_law 1092 = .ok (.iconst 1, 1) := by decide +kernel
theorem dL_law_1093 : decode cL_law 1093 = .ok (.iadd, 1) := by decide +kernel
theorem dL_law_1094 : decode cL_law 1094 = .ok (.iaload, 1) := by decide +kernel
theorem dL_law_1095 : decode cL_law 1095 = .ok (.invokevirtual 118, 3) := by decide +kernel
theorem dL_law_1098 : decode cL_law 1098 = .ok (.aload_n 2, 1) := by decide +kernel
theorem dL_law_1099 : decode cL_law 1099 = .ok (.aload_n 0, 1) := by decide +kernel
theorem dL_law_1100 : decode cL_law 1100 = .ok (.iload_n 3, 1) := by decide +kernel
theorem dL_law_1101 : decode cL_law 1101 = .ok (.iconst 1, 1) := by decide +kernel
theorem dL_law_1102 : decode cL_law 1102 = .ok (.iadd, 1) := by decide +kernel
theorem dL_law_1103 : decode cL_law 1103 = .ok (.iaload, 1) := by decide +kernel
theorem dL_law_1104 : decode cL_law 1104 = .ok (.invokevirtual 121, 3) := by decide +kernel
theorem dL_law_1107 : decode cL_law 1107 = .ok (.if_icmp .eq 180, 3) := by decide +kernel
theorem dL_law_1110 : decode cL_law 1110 = .ok (.iconst 0, 1) := by decide +kernel
theorem dL_law_1111 : decode cL_law 1111 = .ok (.ireturn, 1) := by decide +kernel
theorem dL_law_1112 : decode cL_law 1112 = .ok (.aload_n 1, 1) := by decide +kernel
theorem dL_law_1113 : decode cL_law 1113 = .ok (.aload_n 0, 1) := by decide +kernel
theorem dL_law_1114 : decode cL_law 1114 = .ok (.iload_n 3, 1) := by decide +kernel
theorem dL_law_1115 : decode cL_law 1115 = .ok (.iconst 1, 1) := by decide +kernel
theorem dL_law_1116 : decode cL_law 1116 = .ok (.iadd, 1) := by decide +kernel
theorem dL_law_1117 : decode cL_law 1117 = .ok (.iaload, 1) := by decide +kernel
theorem dL_law_1118 : decode cL_law 1118 = .ok (.invokevirtual 122, 3) := by decide +kernel
theorem dL_law_1121 : decode cL_law 1121 = .ok (.aload_n 2, 1) := by decide +kernel
theorem dL_law_1122 : decode cL_law 1122 = .ok (.aload_n 0, 1) := by decide +kernel
theorem dL_law_1123 : decode cL_law 1123 = .ok (.iload_n 3, 1) := by decide +kernel
theorem dL_law_1124 : decode cL_law 1124 = .ok (.iconst 1, 1) := by decide +kernel
theorem dL_law_1125 : decode cL_law 1125 = .ok (.iadd, 1) := by decide +kernel
theorem dL_law_1126 : decode cL_law 1126 = .ok (.iaload, 1) := by decide +kernel
theorem dL_law_1127 : decode cL_law 1127 = .ok (.invokevirtual 125, 3) := by decide +kernel
theorem dL_law_1130 : decode cL_law 1130 = .ok (.if_icmp .eq 157, 3) := by decide +kernel
theorem dL_law_1133 : decode cL_law 1133 = .ok (.iconst 0, 1) := by decide +kernel
theorem dL_law_1134 : decode cL_law 1134 = .ok (.ireturn, 1) := by decide +kernel
theorem dL_law_1135 : decode cL_law 1135 = .ok (.aload_n 1, 1) := by decide +kernel
theorem dL_law_1136 : decode cL_law 1136 = .ok (.aload_n 0, 1) := by decide +kernel
theorem dL_law_1137 : decode cL_law 1137 = .ok (.iload_n 3, 1) := by decide +kernel
theorem dL_law_1138 : decode cL_law 1138 = .ok (.iconst 1, 1) := by decide +kernel
theorem dL_law_1139 : decode cL_law 1139 = .ok (.iadd, 1) := by decide +kernel
theorem dL_law_1140 : decode cL_law 1140 = .ok (.iaload, 1) := by decide +kernel
theorem dL_law_1141 : decode cL_law 1141 = .ok (.aload_n 0, 1) := by decide +kernel
theorem dL_law_1142 : decode cL_law 1142 = .ok (.iload_n 3, 1) := by decide +kernel
theorem dL_law_1143 : decode cL_law 1143 = .ok (.iconst 2, 1) := by decide +kernel
theorem dL_law_1144 : decode cL_law 1144 = .ok (.iadd, 1) := by decide +kernel
theorem dL_law_1145 : decode cL_law 1145 = .ok (.iaload, 1) := by decide +kernel
theorem dL_law_1146 : decode cL_law 1146 = .ok (.i2l, 1) := by decide +kernel
theorem dL_law_1147 : decode cL_law 1147 = .ok (.bipush 32, 2) := by decide +kernel
theorem dL_law_1149 : decode cL_law 1149 = .ok (.lshl, 1) := by decide +kernel
theorem dL_law_1150 : decode cL_law 1150 = .ok (.aload_n 0, 1) := by decide +kernel
theorem dL_law_1151 : decode cL_law 1151 = .ok (.iload_n 3, 1) := by decide +kernel
theorem dL_law_1152 : decode cL_law 1152 = .ok (.iconst 3, 1) := by decide +kernel
theorem dL_law_1153 : decode cL_law 1153 = .ok (.iadd, 1) := by decide +kernel
theorem dL_law_1154 : decode cL_law 1154 = .ok (.iaload, 1) := by decide +kernel
theorem dL_law_1155 : decode cL_law 1155 = .ok (.i2l, 1) := by decide +kernel
theorem dL_law_1156 : decode cL_law 1156 = .ok (.ldc2_w 21, 3) := by decide +kernel
theorem dL_law_1159 : decode cL_law 1159 = .ok (.land, 1) := by decide +kernel
theorem dL_law_1160 : decode cL_law 1160 = .ok (.lor, 1) := by decide +kernel
theorem dL_law_1161 : decode cL_law 1161 = .ok (.invokevirtual 126, 3) := by decide +kernel
theorem dL_law_1164 : decode cL_law 1164 = .ok (.aload_n 2, 1) := by decide +kernel
theorem dL_law_1165 : decode cL_law 1165 = .ok (.aload_n 0, 1) := by decide +kernel
theorem dL_law_1166 : decode cL_law 1166 = .ok (.iload_n 3, 1) := by decide +kernel
theorem dL_law_1167 : decode cL_law 1167 = .ok (.iconst 1, 1) := by decide +kernel
theorem dL_law_1168 : decode cL_law 1168 = .ok (.iadd, 1) := by decide +kernel
theorem dL_law_1169 : decode cL_law 1169 = .ok (.iaload, 1) := by decide +kernel
theorem dL_law_1170 : decode cL_law 1170 = .ok (.aload_n 0, 1) := by decide +kernel
theorem dL_law_1171 : decode cL_law 1171 = .ok (.iload_n 3, 1) := by decide +kernel
theorem dL_law_1172 : decode cL_law 1172 = .ok (.iconst 2, 1) := by decide +kernel
theorem dL_law_1173 : decode cL_law 1173 = .ok (.iadd, 1) := by decide +kernel
theorem dL_law_1174 : decode cL_law 1174 = .ok (.iaload, 1) := by decide +kernel
theorem dL_law_1175 : decode cL_law 1175 = .ok (.i2l, 1) := by decide +kernel
theorem dL_law_1176 : decode cL_law 1176 = .ok (.bipush 32, 2) := by decide +kernel
theorem dL_law_1178 : decode cL_law 1178 = .ok (.lshl, 1) := by decide +kernel
theorem dL_law_1179 : decode cL_law 1179 = .ok (.aload_n 0, 1) := by decide +kernel
theorem dL_law_1180 : decode cL_law 1180 = .ok (.iload_n 3, 1) := by decide +kernel
theorem dL_law_1181 : decode cL_law 1181 = .ok (.iconst 3, 1) := by decide +kernel
theorem dL_law_1182 : decode cL_law 1182 = .ok (.iadd, 1) := by decide +kernel
theorem dL_law_1183 : decode cL_law 1183 = .ok (.iaload, 1) := by decide +kernel
theorem dL_law_1184 : decode cL_law 1184 = .ok (.i2l, 1) := by decide +kernel
theorem dL_law_1185 : decode cL_law 1185 = .ok (.ldc2_w 21, 3) := by decide +kernel
theorem dL_law_1188 : decode cL_law 1188 = .ok (.land, 1) := by decide +kernel
theorem dL_law_1189 : decode cL_law 1189 = .ok (.lor, 1) := by decide +kernel
theorem dL_law_1190 : decode cL_law 1190 = .ok (.invokevirtual 130, 3) := by decide +kernel
theorem dL_law_1193 : decode cL_law 1193 = .ok (.if_icmp .eq 94, 3) := by decide +kernel
theorem dL_law_1196 : decode cL_law 1196 = .ok (.iconst 0, 1) := by decide +kernel
theorem dL_law_1197 : decode cL_law 1197 = .ok (.ireturn, 1) := by decide +kernel
theorem dL_law_1198 : decode cL_law 1198 = .ok (.aload_n 1, 1) := by decide +kernel
theorem dL_law_1199 : decode cL_law 1199 = .ok (.aload_n 0, 1) := by decide +kernel
theorem dL_law_1200 : decode cL_law 1200 = .ok (.iload_n 3, 1) := by decide +kernel
theorem dL_law_1201 : decode cL_law 1201 = .ok (.iconst 1, 1) := by decide +kernel
theorem dL_law_1202 : decode cL_law 1202 = .ok (.iadd, 1) := by decide +kernel
theorem dL_law_1203 : decode cL_law 1203 = .ok (.iaload, 1) := by decide +kernel
theorem dL_law_1204 : decode cL_law 1204 = .ok (.invokevirtual 131, 3) := by decide +kernel
theorem dL_law_1207 : decode cL_law 1207 = .ok (.aload_n 2, 1) := by decide +kernel
theorem dL_law_1208 : decode cL_law 1208 = .ok (.aload_n 0, 1) := by decide +kernel
theorem dL_law_1209 : decode cL_law 1209 = .ok (.iload_n 3, 1) := by decide +kernel
theorem dL_law_1210 : decode cL_law 1210 = .ok (.iconst 1, 1) := by decide +kernel
theorem dL_law_1211 : decode cL_law 1211 = .ok (.iadd, 1) := by decide +kernel
theorem dL_law_1212 : decode cL_law 1212 = .ok (.iaload, 1) := by decide +kernel
theorem dL_law_1213 : decode cL_law 1213 = .ok (.invokevirtual 134, 3) := by decide +kernel
theorem dL_law_1216 : decode cL_law 1216 = .ok (.if_icmp .eq 71, 3) := by decide +kernel
theorem dL_law_1219 : decode cL_law 1219 = .ok (.iconst 0, 1) := by decide +kernel
theorem dL_law_1220 : decode cL_law 1220 = .ok (.ireturn, 1) := by decide +kernel
theorem dL_law_1221 : decode cL_law 1221 = .ok (.aload_n 1, 1) := by decide +kernel
theorem dL_law_1222 : decode cL_law 1222 = .ok (.aload_n 0, 1) := by decide +kernel
theorem dL_law_1223 : decode cL_law 1223 = .ok (.iload_n 3, 1) := by decide +kernel
theorem dL_law_1224 : decode cL_law 1224 = .ok (.iconst 1, 1) := by decide +kernel
theorem dL_law_1225 : decode cL_law 1225 = .ok (.iadd, 1) := by decide +kernel
theorem dL_law_1226 : decode cL_law 1226 = .ok (.iaload, 1) := by decide +kernel
theorem dL_law_1227 : decode cL_law 1227 = .ok (.aload_n 0, 1) := by decide +kernel
theorem dL_law_1228 : decode cL_law 1228 = .ok (.iload_n 3, 1) := by decide +kernel
theorem dL_law_1229 : decode cL_law 1229 = .ok (.iconst 2, 1) := by decide +kernel
theorem dL_law_1230 : decode cL_law 1230 = .ok (.iadd, 1) := by decide +kernel
theorem dL_law_1231 : decode cL_law 1231 = .ok (.iaload, 1) := by decide +kernel
theorem dL_law_1232 : decode cL_law 1232 = .ok (.aload_n 0, 1) := by decide +kernel
theorem dL_law_1233 : decode cL_law 1233 = .ok (.iload_n 3, 1) := by decide +kernel
theorem dL_law_1234 : decode cL_law 1234 = .ok (.iconst 3, 1) := by decide +kernel
theorem dL_law_1235 : decode cL_law 1235 = .ok (.iadd, 1) := by decide +kernel
theorem dL_law_1236 : decode cL_law 1236 = .ok (.iaload, 1) := by decide +kernel
theorem dL_law_1237 : decode cL_law 1237 = .ok (.invokevirtual 135, 3) := by decide +kernel
theorem dL_law_1240 : decode cL_law 1240 = .ok (.aload_n 2, 1) := by decide +kernel
theorem dL_law_1241 : decode cL_law 1241 = .ok (.aload_n 0, 1) := by decide +kernel
theorem dL_law_1242 : decode cL_law 1242 = .ok (.iload_n 3, 1) := by decide +kernel
theorem dL_law_1243 : decode cL_law 1243 = .ok (.iconst 1, 1) := by decide +kernel
theorem dL_law_1244 : decode cL_law 1244 = .ok (.iadd, 1) := by decide +kernel
theorem dL_law_1245 : decode cL_law 1245 = .ok (.iaload, 1) := by decide +kernel
theorem dL_law_1246 : decode cL_law 1246 = .ok (.aload_n 0, 1) := by decide +kernel
theorem dL_law_1247 : decode cL_law 1247 = .ok (.iload_n 3, 1) := by decide +kernel
theorem dL_law_1248 : decode cL_law 1248 = .ok (.iconst 2, 1) := by decide +kernel
theorem dL_law_1249 : decode cL_law 1249 = .ok (.iadd, 1) := by decide +kernel
theorem dL_law_1250 : decode cL_law 1250 = .ok (.iaload, 1) := by decide +kernel
theorem dL_law_1251 : decode cL_law 1251 = .ok (.aload_n 0, 1) := by decide +kernel
theorem dL_law_1252 : decode cL_law 1252 = .ok (.iload_n 3, 1) := by decide +kernel
theorem dL_law_1253 : decode cL_law 1253 = .ok (.iconst 3, 1) := by decide +kernel
theorem dL_law_1254 : decode cL_law 1254 = .ok (.iadd, 1) := by decide +kernel
theorem dL_law_1255 : decode cL_law 1255 = .ok (.iaload, 1) := by decide +kernel
theorem dL_law_1256 : decode cL_law 1256 = .ok (.invokevirtual 139, 3) := by decide +kernel
theorem dL_law_1259 : decode cL_law 1259 = .ok (.if_icmp .eq 28, 3) := by decide +kernel
theorem dL_law_1262 : decode cL_law 1262 = .ok (.iconst 0, 1) := by decide +kernel
theorem dL_law_1263 : decode cL_law 1263 = .ok (.ireturn, 1) := by decide +kernel
theorem dL_law_1264 : decode cL_law 1264 = .ok (.aload_n 1, 1) := by decide +kernel
theorem dL_law_1265 : decode cL_law 1265 = .ok (.aload_n 0, 1) := by decide +kernel
theorem dL_law_1266 : decode cL_law 1266 = .ok (.iload_n 3, 1) := by decide +kernel
theorem dL_law_1267 : decode cL_law 1267 = .ok (.iconst 1, 1) := by decide +kernel
theorem dL_law_1268 : decode cL_law 1268 = .ok (.iadd, 1) := by decide +kernel
theorem dL_law_1269 : decode cL_law 1269 = .ok (.iaload, 1) := by decide +kernel
theorem dL_law_1270 : decode cL_law 1270 = .ok (.invokevirtual 140, 3) := by decide +kernel
theorem dL_law_1273 : decode cL_law 1273 = .ok (.aload_n 2, 1) := by decide +kernel
theorem dL_law_1274 : decode cL_law 1274 = .ok (.aload_n 0, 1) := by decide +kernel
theorem dL_law_1275 : decode cL_law 1275 = .ok (.iload_n 3, 1) := by decide +kernel
theorem dL_law_1276 : decode cL_law 1276 = .ok (.iconst 1, 1) := by decide +kernel
theorem dL_law_1277 : decode cL_law 1277 = .ok (.iadd, 1) := by decide +kernel
theorem dL_law_1278 : decode cL_law 1278 = .ok (.iaload, 1) := by decide +kernel
theorem dL_law_1279 : decode cL_law 1279 = .ok (.invokevirtual 143, 3) := by decide +kernel
theorem dL_law_1282 : decode cL_law 1282 = .ok (.if_icmp .eq 5, 3) := by decide +kernel
theorem dL_law_1285 : decode cL_law 1285 = .ok (.iconst 0, 1) := by decide +kernel
theorem dL_law_1286 : decode cL_law 1286 = .ok (.ireturn, 1) := by decide +kernel
theorem dL_law_1287 : decode cL_law 1287 = .ok (.iinc 3 7, 3) := by decide +kernel
theorem dL_law_1290 : decode cL_law 1290 = .ok (.goto (-1260), 3) := by decide +kernel
theorem dL_law_1293 : decode cL_law 1293 = .ok (.iconst 1, 1) := by decide +kernel
theorem dL_law_1294 : decode cL_law 1294 = .ok (.ireturn, 1) := by decide +kernel
end
section
theorem mr_1 : ∀ w ∈ wsL_law_r1, w ∈ wsL_law := fun _ h => List.mem_append_left _ (List.mem_append_left _ (List.mem_append_left _ (List.mem_append_left _ (List.mem_append_left _ (List.mem_append_left _ (List.mem_append_left _ (List.mem_append_left _ h)))))))
theorem mr_2 : ∀ w ∈ wsL_law_r2, w ∈ wsL_law := fun _ h => List.mem_append_left _ (List.mem_append_left _ (List.mem_append_left _ (List.mem_append_left _ (List.mem_append_left _ (List.mem_append_left _ (List.mem_append_left _ (List.mem_append_right _ (List.mem_append_left _ h))))))))
theorem mr_3 : ∀ w ∈ wsL_law_r3, w ∈ wsL_law := fun _ h => List.mem_append_left _ (List.mem_append_left _ (List.mem_append_left _ (List.mem_append_left _ (List.mem_append_left _ (List.mem_append_left _ (List.mem_append_left _ (List.mem_append_right _ (List.mem_append_right _ (List.mem_append_left _ h)))))))))
theorem mr_4 : ∀ w ∈ wsL_law_r4, w ∈ wsL_law := fun _ h => List.mem_append_left _ (List.mem_append_left _ (List.mem_append_left _ (List.mem_append_left _ (List.mem_append_left _ (List.mem_append_left _ (List.mem_append_left _ (List.mem_append_right _ (List.mem_append_right _ (List.mem_append_right _ (List.mem_append_left _ h))))))))))
theorem mr_5 : ∀ w ∈ wsL_law_r5, w ∈ wsL_law := fun _ h => List.mem_append_left _ (List.mem_append_left _ (List.mem_append_left _ (List.mem_append_left _ (List.mem_append_left _ (List.mem_append_left _ (List.mem_append_left _ (List.mem_append_right _ (List.mem_append_right _ (List.mem_append_right _ (List.mem_append_right _ (List.mem_append_left _ h)))))))))))
theorem mr_6 : ∀ w ∈ wsL_law_r6, w ∈ wsL_law := fun _ h => List.mem_append_left _ (List.mem_append_left _ (List.mem_append_left _ (List.mem_append_left _ (List.mem_append_left _ (List.mem_append_left _ (List.mem_append_left _ (List.mem_append_right _ (List.mem_append_right _ (List.mem_append_right _ (List.mem_append_right _ (List.mem_append_right _ (List.mem_append_left _ h))))))))))))
theorem mr_7 : ∀ w ∈ wsL_law_r7, w ∈ wsL_law := fun _ h => List.mem_append_left _ (List.mem_append_left _ (List.mem_append_left _ (List.mem_append_left _ (List.mem_append_left _ (List.mem_append_left _ (List.mem_append_left _ (List.mem_append_right _ (List.mem_append_right _ (List.mem_append_right _ (List.mem_append_right _ (List.mem_append_right _ (List.mem_append_right _ (List.mem_append_left _ h)))))))))))))
theorem mr_8 : ∀ w ∈ wsL_law_r8, w ∈ wsL_law := fun _ h => List.mem_append_left _ (List.mem_append_left _ (List.mem_append_left _ (List.mem_append_left _ (List.mem_append_left _ (List.mem_append_left _ (List.mem_append_left _ (List.mem_append_right _ (List.mem_append_right _ (List.mem_append_right _ (List.mem_append_right _ (List.mem_append_right _ (List.mem_append_right _ (List.mem_append_right _ (List.mem_append_left _ h))))))))))))))
theorem mr_9 : ∀ w ∈ wsL_law_r9, w ∈ wsL_law := fun _ h => List.mem_append_left _ (List.mem_append_left _ (List.mem_append_left _ (List.mem_append_left _ (List.mem_append_left _ (List.mem_append_left _ (List.mem_append_left _ (List.mem_append_right _ (List.mem_append_right _ (List.mem_append_right _ (List.mem_append_right _ (List.mem_append_right _ (List.mem_append_right _ (List.mem_append_right _ (List.mem_append_right _ (List.mem_append_left _ h)))))))))))))))
theorem mr_10 : ∀ w ∈ wsL_law_r10, w ∈ wsL_law := fun _ h => List.mem_append_left _ (List.mem_append_left _ (List.mem_append_left _ (List.mem_append_left _ (List.mem_append_left _ (List.mem_append_left _ (List.mem_append_left _ (List.mem_append_right _ (List.mem_append_right _ (List.mem_append_right _ (List.mem_append_right _ (List.mem_append_right _ (List.mem_append_right _ (List.mem_append_right _ (List.mem_append_right _ (List.mem_append_right _ (List.mem_append_left _ h))))))))))))))))
theorem mr_11 : ∀ w ∈ wsL_law_r11, w ∈ wsL_law := fun _ h => List.mem_append_left _ (List.mem_append_left _ (List.mem_append_left _ (List.mem_append_left _ (List.mem_append_left _ (List.mem_append_left _ (List.mem_append_left _ (List.mem_append_right _ (List.mem_append_right _ (List.mem_append_right _ (List.mem_append_right _ (List.mem_append_right _ (List.mem_append_right _ (List.mem_append_right _ (List.mem_append_right _ (List.mem_append_right _ (List.mem_append_right _ (List.mem_append_left _ h)))))))))))))))))
theorem mr_12 : ∀ w ∈ wsL_law_r12, w ∈ wsL_law := fun _ h => List.mem_append_left _ (List.mem_append_left _ (List.mem_append_left _ (List.mem_append_left _ (List.mem_append_left _ (List.mem_append_left _ (List.mem_append_left _ (List.mem_append_right _ (List.mem_append_right _ (List.mem_append_right _ (List.mem_append_right _ (List.mem_append_right _ (List.mem_append_right _ (List.mem_append_right _ (List.mem_append_right _ (List.mem_append_right _ (List.mem_append_right _ (List.mem_append_right _ (List.mem_append_left _ h))))))))))))))))))
theorem mr_13 : ∀ w ∈ wsL_law_r13, w ∈ wsL_law := fun _ h => List.mem_append_left _ (List.mem_append_left _ (List.mem_append_left _ (List.mem_append_left _ (List.mem_append_left _ (List.mem_append_left _ (List.mem_append_left _ (List.mem_append_right _ (List.mem_append_right _ (List.mem_append_right _ (List.mem_append_right _ (List.mem_append_right _ (List.mem_append_right _ (List.mem_append_right _ (List.mem_append_right _ (List.mem_append_right _ (List.mem_append_right _ (List.mem_append_right _ (List.mem_append_right _ (List.mem_append_left _ h)))))))))))))))))))
theorem mr_14 : ∀ w ∈ wsL_law_r14, w ∈ wsL_law := fun _ h => List.mem_append_left _ (List.mem_append_left _ (List.mem_append_left _ (List.mem_append_left _ (List.mem_append_left _ (List.mem_append_left _ (List.mem_append_left _ (List.mem_append_right _ (List.mem_append_right _ (List.mem_append_right _ (List.mem_append_right _ (List.mem_append_right _ (List.mem_append_right _ (List.mem_append_right _ (List.mem_append_right _ (List.mem_append_right _ (List.mem_append_right _ (List.mem_append_right _ (List.mem_append_right _ (List.mem_append_right _ (List.mem_append_left _ h))))))))))))))))))))
theorem mr_15 : ∀ w ∈ wsL_law_r15, w ∈ wsL_law := fun _ h => List.mem_append_left _ (List.mem_append_left _ (List.mem_append_left _ (List.mem_append_left _ (List.mem_append_left _ (List.mem_append_left _ (List.mem_append_left _ (List.mem_append_right _ (List.mem_append_right _ (List.mem_append_right _ (List.mem_append_right _ (List.mem_append_right _ (List.mem_append_right _ (List.mem_append_right _ (List.mem_append_right _ (List.mem_append_right _ (List.mem_append_right _ (List.mem_append_right _ (List.mem_append_right _ (List.mem_append_right _ (List.mem_append_right _ (List.mem_append_left _ h)))))))))))))))))))))
theorem mr_16 : ∀ w ∈ wsL_law_r16, w ∈ wsL_law := fun _ h => List.mem_append_left _ (List.mem_append_left _ (List.mem_append_left _ (List.mem_append_left _ (List.mem_append_left _ (List.mem_append_left _ (List.mem_append_left _ (List.mem_append_right _ (List.mem_append_right _ (List.mem_append_right _ (List.mem_append_right _ (List.mem_append_right _ (List.mem_append_right _ (List.mem_append_right _ (List.mem_append_right _ (List.mem_append_right _ (List.mem_append_right _ (List.mem_append_right _ (List.mem_append_right _ (List.mem_append_right _ (List.mem_append_right _ (List.mem_append_right _ (List.mem_append_left _ h))))))))))))))))))))))
theorem mr_17 : ∀ w ∈ wsL_law_r17, w ∈ wsL_law := fun _ h => List.mem_append_left _ (List.mem_append_left _ (List.mem_append_left _ (List.mem_append_left _ (List.mem_append_left _ (List.mem_append_left _ (List.mem_append_left _ (List.mem_append_right _ (List.mem_append_right _ (List.mem_append_right _ (List.mem_append_right _ (List.mem_append_right _ (List.mem_append_right _ (List.mem_append_right _ (List.mem_append_right _ (List.mem_append_right _ (List.mem_append_right _ (List.mem_append_right _ (List.mem_append_right _ (List.mem_append_right _ (List.mem_append_right _ (List.mem_append_right _ (List.mem_append_right _ (List.mem_append_left _ h)))))))))))))))))))))))
theorem mr_18 : ∀ w ∈ wsL_law_r18, w ∈ wsL_law := fun _ h => List.mem_append_left _ (List.mem_append_left _ (List.mem_append_left _ (List.mem_append_left _ (List.mem_append_left _ (List.mem_append_left _ (List.mem_append_left _ (List.mem_append_right _ (List.mem_append_right _ (List.mem_append_right _ (List.mem_append_right _ (List.mem_append_right _ (List.mem_append_right _ (List.mem_append_right _ (List.mem_append_right _ (List.mem_append_right _ (List.mem_append_right _ (List.mem_append_right _ (List.mem_append_right _ (List.mem_append_right _ (List.mem_append_right _ (List.mem_append_right _ (List.mem_append_right _ (List.mem_append_right _ (List.mem_append_left _ h))))))))))))))))))))))))
theorem mr_19 : ∀ w ∈ wsL_law_r19, w ∈ wsL_law := fun _ h => List.mem_append_left _ (List.mem_append_left _ (List.mem_append_left _ (List.mem_append_left _ (List.mem_append_left _ (List.mem_append_left _ (List.mem_append_left _ (List.mem_append_right _ (List.mem_append_right _ (List.mem_append_right _ (List.mem_append_right _ (List.mem_append_right _ (List.mem_append_right _ (List.mem_append_right _ (List.mem_append_right _ (List.mem_append_right _ (List.mem_append_right _ (List.mem_append_right _ (List.mem_append_right _ (List.mem_append_right _ (List.mem_append_right _ (List.mem_append_right _ (List.mem_append_right _ (List.mem_append_right _ (List.mem_append_right _ (List.mem_append_left _ h)))))))))))))))))))))))))
theorem mr_20 : ∀ w ∈ wsL_law_r20, w ∈ wsL_law := fun _ h => List.mem_append_left _ (List.mem_append_left _ (List.mem_append_left _ (List.mem_append_left _ (List.mem_append_left _ (List.mem_append_left _ (List.mem_append_left _ (List.mem_append_right _ (List.mem_append_right _ (List.mem_append_right _ (List.mem_append_right _ (List.mem_append_right _ (List.mem_append_right _ (List.mem_append_right _ (List.mem_append_right _ (List.mem_append_right _ (List.mem_append_right _ (List.mem_append_right _ (List.mem_append_right _ (List.mem_append_right _ (List.mem_append_right _ (List.mem_append_right _ (List.mem_append_right _ (List.mem_append_right _ (List.mem_append_right _ (List.mem_append_right _ (List.mem_append_left _ h))))))))))))))))))))))))))
theorem mr_21 : ∀ w ∈ wsL_law_r21, w ∈ wsL_law := fun _ h => List.mem_append_left _ (List.mem_append_left _ (List.mem_append_left _ (List.mem_append_left _ (List.mem_append_left _ (List.mem_append_left _ (List.mem_append_left _ (List.mem_append_right _ (List.mem_append_right _ (List.mem_append_right _ (List.mem_append_right _ (List.mem_append_right _ (List.mem_append_right _ (List.mem_append_right _ (List.mem_append_right _ (List.mem_append_right _ (List.mem_append_right _ (List.mem_append_right _ (List.mem_append_right _ (List.mem_append_right _ (List.mem_append_right _ (List.mem_append_right _ (List.mem_append_right _ (List.mem_append_right _ (List.mem_append_right _ (List.mem_append_right _ (List.mem_append_right _ (List.mem_append_left _ h)))))))))))))))))))))))))))
theorem mr_22 : ∀ w ∈ wsL_law_r22, w ∈ wsL_law := fun _ h => List.mem_append_left _ (List.mem_append_left _ (List.mem_append_left _ (List.mem_append_left _ (List.mem_append_left _ (List.mem_append_left _ (List.mem_append_left _ (List.mem_append_right _ (List.mem_append_right _ (List.mem_append_right _ (List.mem_append_right _ (List.mem_append_right _ (List.mem_append_right _ (List.mem_append_right _ (List.mem_append_right _ (List.mem_append_right _ (List.mem_append_right _ (List.mem_append_right _ (List.mem_append_right _ (List.mem_append_right _ (List.mem_append_right _ (List.mem_append_right _ (List.mem_append_right _ (List.mem_append_right _ (List.mem_append_right _ (List.mem_append_right _ (List.mem_append_right _ (List.mem_append_right _ (List.mem_append_left _ h))))))))))))))))))))))))))))
theorem mr_23 : ∀ w ∈ wsL_law_r23, w ∈ wsL_law := fun _ h => List.mem_append_left _ (List.mem_append_left _ (List.mem_append_left _ (List.mem_append_left _ (List.mem_append_left _ (List.mem_append_left _ (List.mem_append_left _ (List.mem_append_right _ (List.mem_append_right _ (List.mem_append_right _ (List.mem_append_right _ (List.mem_append_right _ (List.mem_append_right _ (List.mem_append_right _ (List.mem_append_right _ (List.mem_append_right _ (List.mem_append_right _ (List.mem_append_right _ (List.mem_append_right _ (List.mem_append_right _ (List.mem_append_right _ (List.mem_append_right _ (List.mem_append_right _ (List.mem_append_right _ (List.mem_append_right _ (List.mem_append_right _ (List.mem_append_right _ (List.mem_append_right _ (List.mem_append_right _ (h)))))))))))))))))))))))))))))
theorem uB_L_7 : Cond.classLink RL 7 RX4 ∈ wsL_law := mr_1 _ (List.mem_of_getElem? (i := 0) rfl)
theorem uT_X4 : Cond.instantiable RX4 10 ∈ wsL_law := mr_1 _ (List.mem_of_getElem? (i := 1) rfl)
theorem uN_X4 : Cond.initialized RX4 ∈ wsL_law := mr_1 _ (List.mem_of_getElem? (i := 2) rfl)
theorem uB_L_18 : Cond.classLink RL 18 RX5 ∈ wsL_law := mr_1 _ (List.mem_of_getElem? (i := 3) rfl)
theorem uT_X5 : Cond.instantiable RX5 27 ∈ wsL_law := mr_1 _ (List.mem_of_getElem? (i := 4) rfl)
theorem uN_X5 : Cond.initialized RX5 ∈ wsL_law := mr_1 _ (List.mem_of_getElem? (i := 5) rfl)
theorem uK_L_21 : Cond.constantLong RL 21 (4294967295) ∈ wsL_law := mr_1 _ (List.mem_of_getElem? (i := 6) rfl)
theorem uM_L_9 : Cond.methodLink RL 9 yL_cell ∈ wsL_law := mr_1 _ (List.mem_of_getElem? (i := 7) rfl)
theorem uS_L_cell : Cond.static yL_cell ∈ wsL_law := mr_1 _ (List.mem_of_getElem? (i := 8) rfl)
theorem uN_L : Cond.initialized RL ∈ wsL_law := mr_1 _ (List.mem_of_getElem? (i := 9) rfl)
theorem uC_L_cell : Cond.code yL_cell cL_cell 2 (some .int) ∈ wsL_law := mr_1 _ (List.mem_of_getElem? (i := 10) rfl)
theorem uM_L_15 : Cond.methodLink RL 15 yX4_init ∈ wsL_law := mr_1 _ (List.mem_of_getElem? (i := 11) rfl)
theorem uI_X4_init : Cond.instanceMethod yX4_init ∈ wsL_law := mr_1 _ (List.mem_of_getElem? (i := 12) rfl)
theorem uC_X4_init : Cond.code yX4_init cX4_init 3 none ∈ wsL_law := mr_1 _ (List.mem_of_getElem? (i := 13) rfl)
theorem uM_X4_1 : Cond.methodLink RX4 1 objectInit ∈ wsL_law := mr_1 _ (List.mem_of_getElem? (i := 14) rfl)
theorem uI_obj : Cond.instanceMethod objectInit ∈ wsL_law := mr_1 _ (List.mem_of_getElem? (i := 15) rfl)
theorem uC_obj : Cond.code objectInit ⟨#[0xb1]⟩ 1 none ∈ wsL_law := mr_1 _ (List.mem_of_getElem? (i := 16) rfl)
theorem uB_X4_7 : Cond.classLink RX4 7 RX2 ∈ wsL_law := mr_1 _ (List.mem_of_getElem? (i := 17) rfl)
theorem uT_X2 : Cond.instantiable RX2 16 ∈ wsL_law := mr_1 _ (List.mem_of_getElem? (i := 18) rfl)
theorem uN_X2 : Cond.initialized RX2 ∈ wsL_law := mr_1 _ (List.mem_of_getElem? (i := 19) rfl)
theorem uF_X4_10 : Cond.fieldLink RX4 10 "AreaGoals" "sea" "LAreaGoals$Sea;" ∈ wsL_law := mr_1 _ (List.mem_of_getElem? (i := 20) rfl)
theorem uB_X4_16 : Cond.classLink RX4 16 RX3 ∈ wsL_law := mr_1 _ (List.mem_of_getElem? (i := 21) rfl)
theorem uT_X3 : Cond.instantiable RX3 7 ∈ wsL_law := mr_1 _ (List.mem_of_getElem? (i := 22) rfl)
theorem uN_X3 : Cond.initialized RX3 ∈ wsL_law := mr_1 _ (List.mem_of_getElem? (i := 23) rfl)
theorem uF_X4_21 : Cond.fieldLink RX4 21 "AreaGoals" "tally" "LAreaGoals$Tally;" ∈ wsL_law := mr_2 _ (List.mem_of_getElem? (i := 0) rfl)
theorem uB_X4_25 : Cond.classLink RX4 25 RX1 ∈ wsL_law := mr_2 _ (List.mem_of_getElem? (i := 1) rfl)
theorem uT_X1 : Cond.instantiable RX1 1 ∈ wsL_law := mr_2 _ (List.mem_of_getElem? (i := 2) rfl)
theorem uN_X1 : Cond.initialized RX1 ∈ wsL_law := mr_2 _ (List.mem_of_getElem? (i := 3) rfl)
theorem uF_X4_28 : Cond.fieldLink RX4 28 "AreaGoals" "draw" "LAreaGoals$Draw;" ∈ wsL_law := mr_2 _ (List.mem_of_getElem? (i := 4) rfl)
theorem uF_X4_36 : Cond.fieldLink RX4 36 "AreaGoals" "trialDraw" "LAreaGoals$Draw;" ∈ wsL_law := mr_2 _ (List.mem_of_getElem? (i := 5) rfl)
theorem uB_X4_39 : Cond.classLink RX4 39 RX0 ∈ wsL_law := mr_2 _ (List.mem_of_getElem? (i := 6) rfl)
theorem uT_X0 : Cond.instantiable RX0 3 ∈ wsL_law := mr_2 _ (List.mem_of_getElem? (i := 7) rfl)
theorem uN_X0 : Cond.initialized RX0 ∈ wsL_law := mr_2 _ (List.mem_of_getElem? (i := 8) rfl)
theorem uF_X4_42 : Cond.fieldLink RX4 42 "AreaGoals" "latest" "LAreaGoals$Choice;" ∈ wsL_law := mr_2 _ (List.mem_of_getElem? (i := 9) rfl)
theorem uA_int : Cond.arrayClass .int ∈ wsL_law := mr_2 _ (List.mem_of_getElem? (i := 10) rfl)
theorem uF_X4_46 : Cond.fieldLink RX4 46 "AreaGoals" "freeCells" "[I" ∈ wsL_law := mr_2 _ (List.mem_of_getElem? (i := 11) rfl)
theorem uF_X4_50 : Cond.fieldLink RX4 50 "AreaGoals" "runAnswer" "I" ∈ wsL_law := mr_2 _ (List.mem_of_getElem? (i := 12) rfl)
theorem uK_X4_54 : Cond.constantLong RX4 54 (-1) ∈ wsL_law := mr_2 _ (List.mem_of_getElem? (i := 13) rfl)
theorem uF_X4_56 : Cond.fieldLink RX4 56 "AreaGoals" "toldBound" "J" ∈ wsL_law := mr_2 _ (List.mem_of_getElem? (i := 14) rfl)
theorem uI_X2_init : Cond.instanceMethod yX2_init ∈ wsL_law := mr_2 _ (List.mem_of_getElem? (i := 15) rfl)
theorem uC_X2_init : Cond.code yX2_init cX2_init 2 none ∈ wsL_law := mr_2 _ (List.mem_of_getElem? (i := 16) rfl)
theorem uM_X2_3 : Cond.methodLink RX2 3 objectInit ∈ wsL_law := mr_2 _ (List.mem_of_getElem? (i := 17) rfl)
theorem uA_long : Cond.arrayClass .long ∈ wsL_law := mr_2 _ (List.mem_of_getElem? (i := 18) rfl)
theorem uF_X2_9 : Cond.fieldLink RX2 9 "AreaGoals$Sea" "costs" "[J" ∈ wsL_law := mr_2 _ (List.mem_of_getElem? (i := 19) rfl)
theorem uF_X2_15 : Cond.fieldLink RX2 15 "AreaGoals$Sea" "amounts" "[J" ∈ wsL_law := mr_2 _ (List.mem_of_getElem? (i := 20) rfl)
theorem uF_X2_18 : Cond.fieldLink RX2 18 "AreaGoals$Sea" "hours" "[J" ∈ wsL_law := mr_2 _ (List.mem_of_getElem? (i := 21) rfl)
theorem uF_X2_21 : Cond.fieldLink RX2 21 "AreaGoals$Sea" "borders" "[J" ∈ wsL_law := mr_2 _ (List.mem_of_getElem? (i := 22) rfl)
theorem uF_X2_24 : Cond.fieldLink RX2 24 "AreaGoals$Sea" "tooFar" "[I" ∈ wsL_law := mr_2 _ (List.mem_of_getElem? (i := 23) rfl)
theorem uF_X2_28 : Cond.fieldLink RX2 28 "AreaGoals$Sea" "kindTotals" "[J" ∈ wsL_law := mr_3 _ (List.mem_of_getElem? (i := 0) rfl)
theorem uF_X2_31 : Cond.fieldLink RX2 31 "AreaGoals$Sea" "portTotals" "[J" ∈ wsL_law := mr_3 _ (List.mem_of_getElem? (i := 1) rfl)
theorem uF_X2_34 : Cond.fieldLink RX2 34 "AreaGoals$Sea" "goalAbove" "[J" ∈ wsL_law := mr_3 _ (List.mem_of_getElem? (i := 2) rfl)
theorem uF_X2_37 : Cond.fieldLink RX2 37 "AreaGoals$Sea" "goalBelow" "[J" ∈ wsL_law := mr_3 _ (List.mem_of_getElem? (i := 3) rfl)
theorem uF_X2_40 : Cond.fieldLink RX2 40 "AreaGoals$Sea" "fairAbove" "J" ∈ wsL_law := mr_3 _ (List.mem_of_getElem? (i := 4) rfl)
theorem uF_X2_44 : Cond.fieldLink RX2 44 "AreaGoals$Sea" "fairBelow" "J" ∈ wsL_law := mr_3 _ (List.mem_of_getElem? (i := 5) rfl)
theorem uI_X3_init : Cond.instanceMethod yX3_init ∈ wsL_law := mr_3 _ (List.mem_of_getElem? (i := 6) rfl)
theorem uC_X3_init : Cond.code yX3_init cX3_init 2 none ∈ wsL_law := mr_3 _ (List.mem_of_getElem? (i := 7) rfl)
theorem uM_X3_3 : Cond.methodLink RX3 3 objectInit ∈ wsL_law := mr_3 _ (List.mem_of_getElem? (i := 8) rfl)
theorem uF_X3_9 : Cond.fieldLink RX3 9 "AreaGoals$Tally" "sea" "LAreaGoals$Sea;" ∈ wsL_law := mr_3 _ (List.mem_of_getElem? (i := 9) rfl)
theorem uF_X3_15 : Cond.fieldLink RX3 15 "AreaGoals$Tally" "amounts" "[J" ∈ wsL_law := mr_3 _ (List.mem_of_getElem? (i := 10) rfl)
theorem uF_X3_19 : Cond.fieldLink RX3 19 "AreaGoals$Tally" "hours" "[J" ∈ wsL_law := mr_3 _ (List.mem_of_getElem? (i := 11) rfl)
theorem uI_X1_init : Cond.instanceMethod yX1_init ∈ wsL_law := mr_3 _ (List.mem_of_getElem? (i := 12) rfl)
theorem uC_X1_init : Cond.code yX1_init cX1_init 1 none ∈ wsL_law := mr_3 _ (List.mem_of_getElem? (i := 13) rfl)
theorem uM_X1_1 : Cond.methodLink RX1 1 objectInit ∈ wsL_law := mr_3 _ (List.mem_of_getElem? (i := 14) rfl)
theorem uI_X1_start : Cond.instanceMethod yX1_start ∈ wsL_law := mr_3 _ (List.mem_of_getElem? (i := 15) rfl)
theorem uE_X1_start : Cond.selects RX1 yX1_start yX1_start ∈ wsL_law := mr_3 _ (List.mem_of_getElem? (i := 16) rfl)
theorem uC_X1_start : Cond.code yX1_start cX1_start 3 none ∈ wsL_law := mr_3 _ (List.mem_of_getElem? (i := 17) rfl)
theorem uK_X1_9 : Cond.constantLong RX1 9 (88172645463325252) ∈ wsL_law := mr_3 _ (List.mem_of_getElem? (i := 18) rfl)
theorem uF_X1_11 : Cond.fieldLink RX1 11 "AreaGoals$Draw" "x" "J" ∈ wsL_law := mr_3 _ (List.mem_of_getElem? (i := 19) rfl)
theorem uI_X0_init : Cond.instanceMethod yX0_init ∈ wsL_law := mr_3 _ (List.mem_of_getElem? (i := 20) rfl)
theorem uC_X0_init : Cond.code yX0_init cX0_init 1 none ∈ wsL_law := mr_3 _ (List.mem_of_getElem? (i := 21) rfl)
theorem uM_X0_3 : Cond.methodLink RX0 3 objectInit ∈ wsL_law := mr_3 _ (List.mem_of_getElem? (i := 22) rfl)
theorem uK_X0_9 : Cond.constantLong RX0 9 (-1) ∈ wsL_law := mr_3 _ (List.mem_of_getElem? (i := 23) rfl)
theorem uF_X0_11 : Cond.fieldLink RX0 11 "AreaGoals$Choice" "price" "J" ∈ wsL_law := mr_4 _ (List.mem_of_getElem? (i := 0) rfl)
theorem uM_L_20 : Cond.methodLink RL 20 yX5_init ∈ wsL_law := mr_4 _ (List.mem_of_getElem? (i := 1) rfl)
theorem uI_X5_init : Cond.instanceMethod yX5_init ∈ wsL_law := mr_4 _ (List.mem_of_getElem? (i := 2) rfl)
theorem uC_X5_init : Cond.code yX5_init cX5_init 3 none ∈ wsL_law := mr_4 _ (List.mem_of_getElem? (i := 3) rfl)
theorem uM_X5_1 : Cond.methodLink RX5 1 objectInit ∈ wsL_law := mr_4 _ (List.mem_of_getElem? (i := 4) rfl)
theorem uF_X5_7 : Cond.fieldLink RX5 7 "AreaGoalsModel" "costs" "[J" ∈ wsL_law := mr_4 _ (List.mem_of_getElem? (i := 5) rfl)
theorem uF_X5_13 : Cond.fieldLink RX5 13 "AreaGoalsModel" "states" "[I" ∈ wsL_law := mr_4 _ (List.mem_of_getElem? (i := 6) rfl)
theorem uF_X5_17 : Cond.fieldLink RX5 17 "AreaGoalsModel" "amounts" "[J" ∈ wsL_law := mr_4 _ (List.mem_of_getElem? (i := 7) rfl)
theorem uF_X5_20 : Cond.fieldLink RX5 20 "AreaGoalsModel" "hours" "[J" ∈ wsL_law := mr_4 _ (List.mem_of_getElem? (i := 8) rfl)
theorem uF_X5_23 : Cond.fieldLink RX5 23 "AreaGoalsModel" "borders" "[J" ∈ wsL_law := mr_4 _ (List.mem_of_getElem? (i := 9) rfl)
theorem uA_boolean : Cond.arrayClass .boolean ∈ wsL_law := mr_4 _ (List.mem_of_getElem? (i := 10) rfl)
theorem uF_X5_26 : Cond.fieldLink RX5 26 "AreaGoalsModel" "apart" "[Z" ∈ wsL_law := mr_4 _ (List.mem_of_getElem? (i := 11) rfl)
theorem uF_X5_30 : Cond.fieldLink RX5 30 "AreaGoalsModel" "hasGoal" "[Z" ∈ wsL_law := mr_4 _ (List.mem_of_getElem? (i := 12) rfl)
theorem uF_X5_33 : Cond.fieldLink RX5 33 "AreaGoalsModel" "goalAbove" "[J" ∈ wsL_law := mr_4 _ (List.mem_of_getElem? (i := 13) rfl)
theorem uF_X5_36 : Cond.fieldLink RX5 36 "AreaGoalsModel" "goalBelow" "[J" ∈ wsL_law := mr_4 _ (List.mem_of_getElem? (i := 14) rfl)
theorem uF_X5_43 : Cond.fieldLink RX5 43 "AreaGoalsModel" "draw" "J" ∈ wsL_law := mr_4 _ (List.mem_of_getElem? (i := 15) rfl)
theorem uM_X5_39 : Cond.methodLink RX5 39 yX5_begun ∈ wsL_law := mr_4 _ (List.mem_of_getElem? (i := 16) rfl)
theorem uS_X5_begun : Cond.static yX5_begun ∈ wsL_law := mr_4 _ (List.mem_of_getElem? (i := 17) rfl)
theorem uC_X5_begun : Cond.code yX5_begun cX5_begun 2 (some .long) ∈ wsL_law := mr_4 _ (List.mem_of_getElem? (i := 18) rfl)
theorem uK_X5_47 : Cond.constantLong RX5 47 (88172645463325252) ∈ wsL_law := mr_4 _ (List.mem_of_getElem? (i := 19) rfl)
theorem uM_L_23 : Cond.methodLink RL 23 yX4_cell ∈ wsL_law := mr_4 _ (List.mem_of_getElem? (i := 20) rfl)
theorem uI_X4_cell : Cond.instanceMethod yX4_cell ∈ wsL_law := mr_4 _ (List.mem_of_getElem? (i := 21) rfl)
theorem uE_X4_cell : Cond.selects RX4 yX4_cell yX4_cell ∈ wsL_law := mr_4 _ (List.mem_of_getElem? (i := 22) rfl)
theorem uC_X4_cell : Cond.code yX4_cell cX4_cell 3 (some .int) ∈ wsL_law := mr_4 _ (List.mem_of_getElem? (i := 23) rfl)
theorem uK_X4_63 : Cond.constantLong RX4 63 (1000000) ∈ wsL_law := mr_5 _ (List.mem_of_getElem? (i := 0) rfl)
theorem uM_X4_65 : Cond.methodLink RX4 65 yX4_within ∈ wsL_law := mr_5 _ (List.mem_of_getElem? (i := 1) rfl)
theorem uS_X4_within : Cond.static yX4_within ∈ wsL_law := mr_5 _ (List.mem_of_getElem? (i := 2) rfl)
theorem uC_X4_within : Cond.code yX4_within cX4_within 4 (some .boolean) ∈ wsL_law := mr_5 _ (List.mem_of_getElem? (i := 3) rfl)
theorem uM_L_26 : Cond.methodLink RL 26 yX5_cell ∈ wsL_law := mr_5 _ (List.mem_of_getElem? (i := 4) rfl)
theorem uI_X5_cell : Cond.instanceMethod yX5_cell ∈ wsL_law := mr_5 _ (List.mem_of_getElem? (i := 5) rfl)
theorem uE_X5_cell : Cond.selects RX5 yX5_cell yX5_cell ∈ wsL_law := mr_5 _ (List.mem_of_getElem? (i := 6) rfl)
theorem uC_X5_cell : Cond.code yX5_cell cX5_cell 3 (some .int) ∈ wsL_law := mr_5 _ (List.mem_of_getElem? (i := 7) rfl)
theorem uF_X5_49 : Cond.fieldLink RX5 49 "AreaGoalsModel" "cells" "I" ∈ wsL_law := mr_5 _ (List.mem_of_getElem? (i := 8) rfl)
theorem uK_X5_55 : Cond.constantLong RX5 55 (1000000) ∈ wsL_law := mr_5 _ (List.mem_of_getElem? (i := 9) rfl)
theorem uM_L_27 : Cond.methodLink RL 27 yX4_holds ∈ wsL_law := mr_5 _ (List.mem_of_getElem? (i := 10) rfl)
theorem uI_X4_holds : Cond.instanceMethod yX4_holds ∈ wsL_law := mr_5 _ (List.mem_of_getElem? (i := 11) rfl)
theorem uE_X4_holds : Cond.selects RX4 yX4_holds yX4_holds ∈ wsL_law := mr_5 _ (List.mem_of_getElem? (i := 12) rfl)
theorem uC_X4_holds : Cond.code yX4_holds cX4_holds 7 (some .boolean) ∈ wsL_law := mr_5 _ (List.mem_of_getElem? (i := 13) rfl)
theorem uK_X4_80 : Cond.constantLong RX4 80 (1000) ∈ wsL_law := mr_5 _ (List.mem_of_getElem? (i := 14) rfl)
theorem uK_X4_82 : Cond.constantLong RX4 82 (16) ∈ wsL_law := mr_5 _ (List.mem_of_getElem? (i := 15) rfl)
theorem uK_X4_84 : Cond.constantLong RX4 84 (720720) ∈ wsL_law := mr_5 _ (List.mem_of_getElem? (i := 16) rfl)
theorem uI_X2_hasCell : Cond.instanceMethod yX2_hasCell ∈ wsL_law := mr_5 _ (List.mem_of_getElem? (i := 17) rfl)
theorem uE_X2_hasCell : Cond.selects RX2 yX2_hasCell yX2_hasCell ∈ wsL_law := mr_5 _ (List.mem_of_getElem? (i := 18) rfl)
theorem uC_X2_hasCell : Cond.code yX2_hasCell cX2_hasCell 2 (some .boolean) ∈ wsL_law := mr_5 _ (List.mem_of_getElem? (i := 19) rfl)
theorem uF_X2_47 : Cond.fieldLink RX2 47 "AreaGoals$Sea" "cells" "I" ∈ wsL_law := mr_5 _ (List.mem_of_getElem? (i := 20) rfl)
theorem uM_X4_77 : Cond.methodLink RX4 77 yX4_isKind ∈ wsL_law := mr_5 _ (List.mem_of_getElem? (i := 21) rfl)
theorem uS_X4_isKind : Cond.static yX4_isKind ∈ wsL_law := mr_5 _ (List.mem_of_getElem? (i := 22) rfl)
theorem uC_X4_isKind : Cond.code yX4_isKind cX4_isKind 1 (some .boolean) ∈ wsL_law := mr_5 _ (List.mem_of_getElem? (i := 23) rfl)
theorem uI_X2_putAmount : Cond.instanceMethod yX2_putAmount ∈ wsL_law := mr_6 _ (List.mem_of_getElem? (i := 0) rfl)
theorem uE_X2_putAmount : Cond.selects RX2 yX2_putAmount yX2_putAmount ∈ wsL_law := mr_6 _ (List.mem_of_getElem? (i := 1) rfl)
theorem uC_X2_putAmount : Cond.code yX2_putAmount cX2_putAmount 6 none ∈ wsL_law := mr_6 _ (List.mem_of_getElem? (i := 2) rfl)
theorem uM_L_31 : Cond.methodLink RL 31 yX5_holds ∈ wsL_law := mr_6 _ (List.mem_of_getElem? (i := 3) rfl)
theorem uI_X5_holds : Cond.instanceMethod yX5_holds ∈ wsL_law := mr_6 _ (List.mem_of_getElem? (i := 4) rfl)
theorem uE_X5_holds : Cond.selects RX5 yX5_holds yX5_holds ∈ wsL_law := mr_6 _ (List.mem_of_getElem? (i := 5) rfl)
theorem uC_X5_holds : Cond.code yX5_holds cX5_holds 7 (some .boolean) ∈ wsL_law := mr_6 _ (List.mem_of_getElem? (i := 6) rfl)
theorem uK_X5_64 : Cond.constantLong RX5 64 (1000) ∈ wsL_law := mr_6 _ (List.mem_of_getElem? (i := 7) rfl)
theorem uK_X5_66 : Cond.constantLong RX5 66 (16) ∈ wsL_law := mr_6 _ (List.mem_of_getElem? (i := 8) rfl)
theorem uK_X5_68 : Cond.constantLong RX5 68 (720720) ∈ wsL_law := mr_6 _ (List.mem_of_getElem? (i := 9) rfl)
theorem uM_X5_57 : Cond.methodLink RX5 57 yX5_isCell ∈ wsL_law := mr_6 _ (List.mem_of_getElem? (i := 10) rfl)
theorem uI_X5_isCell : Cond.instanceMethod yX5_isCell ∈ wsL_law := mr_6 _ (List.mem_of_getElem? (i := 11) rfl)
theorem uE_X5_isCell : Cond.selects RX5 yX5_isCell yX5_isCell ∈ wsL_law := mr_6 _ (List.mem_of_getElem? (i := 12) rfl)
theorem uC_X5_isCell : Cond.code yX5_isCell cX5_isCell 2 (some .boolean) ∈ wsL_law := mr_6 _ (List.mem_of_getElem? (i := 13) rfl)
theorem uM_X5_61 : Cond.methodLink RX5 61 yX5_isKind ∈ wsL_law := mr_6 _ (List.mem_of_getElem? (i := 14) rfl)
theorem uS_X5_isKind : Cond.static yX5_isKind ∈ wsL_law := mr_6 _ (List.mem_of_getElem? (i := 15) rfl)
theorem uC_X5_isKind : Cond.code yX5_isKind cX5_isKind 1 (some .boolean) ∈ wsL_law := mr_6 _ (List.mem_of_getElem? (i := 16) rfl)
theorem uM_L_32 : Cond.methodLink RL 32 yX4_goal ∈ wsL_law := mr_6 _ (List.mem_of_getElem? (i := 17) rfl)
theorem uI_X4_goal : Cond.instanceMethod yX4_goal ∈ wsL_law := mr_6 _ (List.mem_of_getElem? (i := 18) rfl)
theorem uE_X4_goal : Cond.selects RX4 yX4_goal yX4_goal ∈ wsL_law := mr_6 _ (List.mem_of_getElem? (i := 19) rfl)
theorem uC_X4_goal : Cond.code yX4_goal cX4_goal 6 (some .boolean) ∈ wsL_law := mr_6 _ (List.mem_of_getElem? (i := 20) rfl)
theorem uM_X4_90 : Cond.methodLink RX4 90 yX4_isShare ∈ wsL_law := mr_6 _ (List.mem_of_getElem? (i := 21) rfl)
theorem uS_X4_isShare : Cond.static yX4_isShare ∈ wsL_law := mr_6 _ (List.mem_of_getElem? (i := 22) rfl)
theorem uC_X4_isShare : Cond.code yX4_isShare cX4_isShare 4 (some .boolean) ∈ wsL_law := mr_6 _ (List.mem_of_getElem? (i := 23) rfl)
theorem uK_X4_223 : Cond.constantLong RX4 223 (100) ∈ wsL_law := mr_7 _ (List.mem_of_getElem? (i := 0) rfl)
theorem uM_L_36 : Cond.methodLink RL 36 yX5_goal ∈ wsL_law := mr_7 _ (List.mem_of_getElem? (i := 1) rfl)
theorem uI_X5_goal : Cond.instanceMethod yX5_goal ∈ wsL_law := mr_7 _ (List.mem_of_getElem? (i := 2) rfl)
theorem uE_X5_goal : Cond.selects RX5 yX5_goal yX5_goal ∈ wsL_law := mr_7 _ (List.mem_of_getElem? (i := 3) rfl)
theorem uC_X5_goal : Cond.code yX5_goal cX5_goal 6 (some .boolean) ∈ wsL_law := mr_7 _ (List.mem_of_getElem? (i := 4) rfl)
theorem uM_X5_70 : Cond.methodLink RX5 70 yX5_isShare ∈ wsL_law := mr_7 _ (List.mem_of_getElem? (i := 5) rfl)
theorem uS_X5_isShare : Cond.static yX5_isShare ∈ wsL_law := mr_7 _ (List.mem_of_getElem? (i := 6) rfl)
theorem uC_X5_isShare : Cond.code yX5_isShare cX5_isShare 4 (some .boolean) ∈ wsL_law := mr_7 _ (List.mem_of_getElem? (i := 7) rfl)
theorem uK_X5_53 : Cond.constantLong RX5 53 (100) ∈ wsL_law := mr_7 _ (List.mem_of_getElem? (i := 8) rfl)
theorem uM_L_37 : Cond.methodLink RL 37 yX4_near ∈ wsL_law := mr_7 _ (List.mem_of_getElem? (i := 9) rfl)
theorem uI_X4_near : Cond.instanceMethod yX4_near ∈ wsL_law := mr_7 _ (List.mem_of_getElem? (i := 10) rfl)
theorem uE_X4_near : Cond.selects RX4 yX4_near yX4_near ∈ wsL_law := mr_7 _ (List.mem_of_getElem? (i := 11) rfl)
theorem uC_X4_near : Cond.code yX4_near cX4_near 5 (some .boolean) ∈ wsL_law := mr_7 _ (List.mem_of_getElem? (i := 12) rfl)
theorem uI_X2_hasPair : Cond.instanceMethod yX2_hasPair ∈ wsL_law := mr_7 _ (List.mem_of_getElem? (i := 13) rfl)
theorem uE_X2_hasPair : Cond.selects RX2 yX2_hasPair yX2_hasPair ∈ wsL_law := mr_7 _ (List.mem_of_getElem? (i := 14) rfl)
theorem uC_X2_hasPair : Cond.code yX2_hasPair cX2_hasPair 3 (some .boolean) ∈ wsL_law := mr_7 _ (List.mem_of_getElem? (i := 15) rfl)
theorem uM_X2_51 : Cond.methodLink RX2 51 yX2_hasCell ∈ wsL_law := mr_7 _ (List.mem_of_getElem? (i := 16) rfl)
theorem uM_L_41 : Cond.methodLink RL 41 yX5_near ∈ wsL_law := mr_7 _ (List.mem_of_getElem? (i := 17) rfl)
theorem uI_X5_near : Cond.instanceMethod yX5_near ∈ wsL_law := mr_7 _ (List.mem_of_getElem? (i := 18) rfl)
theorem uE_X5_near : Cond.selects RX5 yX5_near yX5_near ∈ wsL_law := mr_7 _ (List.mem_of_getElem? (i := 19) rfl)
theorem uC_X5_near : Cond.code yX5_near cX5_near 5 (some .boolean) ∈ wsL_law := mr_7 _ (List.mem_of_getElem? (i := 20) rfl)
theorem uM_L_42 : Cond.methodLink RL 42 yX4_weight ∈ wsL_law := mr_7 _ (List.mem_of_getElem? (i := 21) rfl)
theorem uI_X4_weight : Cond.instanceMethod yX4_weight ∈ wsL_law := mr_7 _ (List.mem_of_getElem? (i := 22) rfl)
theorem uE_X4_weight : Cond.selects RX4 yX4_weight yX4_weight ∈ wsL_law := mr_7 _ (List.mem_of_getElem? (i := 23) rfl)
theorem uC_X4_weight : Cond.code yX4_weight cX4_weight 3 (some .boolean) ∈ wsL_law := mr_8 _ (List.mem_of_getElem? (i := 0) rfl)
theorem uM_L_46 : Cond.methodLink RL 46 yX5_weight ∈ wsL_law := mr_8 _ (List.mem_of_getElem? (i := 1) rfl)
theorem uI_X5_weight : Cond.instanceMethod yX5_weight ∈ wsL_law := mr_8 _ (List.mem_of_getElem? (i := 2) rfl)
theorem uE_X5_weight : Cond.selects RX5 yX5_weight yX5_weight ∈ wsL_law := mr_8 _ (List.mem_of_getElem? (i := 3) rfl)
theorem uC_X5_weight : Cond.code yX5_weight cX5_weight 3 (some .boolean) ∈ wsL_law := mr_8 _ (List.mem_of_getElem? (i := 4) rfl)
theorem uF_X5_74 : Cond.fieldLink RX5 74 "AreaGoalsModel" "weight" "J" ∈ wsL_law := mr_8 _ (List.mem_of_getElem? (i := 5) rfl)
theorem uM_L_47 : Cond.methodLink RL 47 yX4_must ∈ wsL_law := mr_8 _ (List.mem_of_getElem? (i := 6) rfl)
theorem uI_X4_must : Cond.instanceMethod yX4_must ∈ wsL_law := mr_8 _ (List.mem_of_getElem? (i := 7) rfl)
theorem uE_X4_must : Cond.selects RX4 yX4_must yX4_must ∈ wsL_law := mr_8 _ (List.mem_of_getElem? (i := 8) rfl)
theorem uC_X4_must : Cond.code yX4_must cX4_must 2 (some .boolean) ∈ wsL_law := mr_8 _ (List.mem_of_getElem? (i := 9) rfl)
theorem uM_L_51 : Cond.methodLink RL 51 yX5_must ∈ wsL_law := mr_8 _ (List.mem_of_getElem? (i := 10) rfl)
theorem uI_X5_must : Cond.instanceMethod yX5_must ∈ wsL_law := mr_8 _ (List.mem_of_getElem? (i := 11) rfl)
theorem uE_X5_must : Cond.selects RX5 yX5_must yX5_must ∈ wsL_law := mr_8 _ (List.mem_of_getElem? (i := 12) rfl)
theorem uC_X5_must : Cond.code yX5_must cX5_must 2 (some .boolean) ∈ wsL_law := mr_8 _ (List.mem_of_getElem? (i := 13) rfl)
theorem uM_L_52 : Cond.methodLink RL 52 yX4_bar ∈ wsL_law := mr_8 _ (List.mem_of_getElem? (i := 14) rfl)
theorem uI_X4_bar : Cond.instanceMethod yX4_bar ∈ wsL_law := mr_8 _ (List.mem_of_getElem? (i := 15) rfl)
theorem uE_X4_bar : Cond.selects RX4 yX4_bar yX4_bar ∈ wsL_law := mr_8 _ (List.mem_of_getElem? (i := 16) rfl)
theorem uC_X4_bar : Cond.code yX4_bar cX4_bar 2 (some .boolean) ∈ wsL_law := mr_8 _ (List.mem_of_getElem? (i := 17) rfl)
theorem uM_L_55 : Cond.methodLink RL 55 yX5_bar ∈ wsL_law := mr_8 _ (List.mem_of_getElem? (i := 18) rfl)
theorem uI_X5_bar : Cond.instanceMethod yX5_bar ∈ wsL_law := mr_8 _ (List.mem_of_getElem? (i := 19) rfl)
theorem uE_X5_bar : Cond.selects RX5 yX5_bar yX5_bar ∈ wsL_law := mr_8 _ (List.mem_of_getElem? (i := 20) rfl)
theorem uC_X5_bar : Cond.code yX5_bar cX5_bar 2 (some .boolean) ∈ wsL_law := mr_8 _ (List.mem_of_getElem? (i := 21) rfl)
theorem uM_L_56 : Cond.methodLink RL 56 yX4_zone ∈ wsL_law := mr_8 _ (List.mem_of_getElem? (i := 22) rfl)
theorem uI_X4_zone : Cond.instanceMethod yX4_zone ∈ wsL_law := mr_8 _ (List.mem_of_getElem? (i := 23) rfl)
theorem uE_X4_zone : Cond.selects RX4 yX4_zone yX4_zone ∈ wsL_law := mr_9 _ (List.mem_of_getElem? (i := 0) rfl)
theorem uC_X4_zone : Cond.code yX4_zone cX4_zone 5 (some .int) ∈ wsL_law := mr_9 _ (List.mem_of_getElem? (i := 1) rfl)
theorem uM_X4_120 : Cond.methodLink RX4 120 yX4_hasBit ∈ wsL_law := mr_9 _ (List.mem_of_getElem? (i := 2) rfl)
theorem uS_X4_hasBit : Cond.static yX4_hasBit ∈ wsL_law := mr_9 _ (List.mem_of_getElem? (i := 3) rfl)
theorem uC_X4_hasBit : Cond.code yX4_hasBit cX4_hasBit 2 (some .boolean) ∈ wsL_law := mr_9 _ (List.mem_of_getElem? (i := 4) rfl)
theorem uM_L_60 : Cond.methodLink RL 60 yX5_zone ∈ wsL_law := mr_9 _ (List.mem_of_getElem? (i := 5) rfl)
theorem uI_X5_zone : Cond.instanceMethod yX5_zone ∈ wsL_law := mr_9 _ (List.mem_of_getElem? (i := 6) rfl)
theorem uE_X5_zone : Cond.selects RX5 yX5_zone yX5_zone ∈ wsL_law := mr_9 _ (List.mem_of_getElem? (i := 7) rfl)
theorem uC_X5_zone : Cond.code yX5_zone cX5_zone 5 (some .int) ∈ wsL_law := mr_9 _ (List.mem_of_getElem? (i := 8) rfl)
theorem uF_X5_121 : Cond.fieldLink RX5 121 "AreaGoalsModel" "hasChoice" "Z" ∈ wsL_law := mr_9 _ (List.mem_of_getElem? (i := 9) rfl)
theorem uF_X5_124 : Cond.fieldLink RX5 124 "AreaGoalsModel" "choice" "I" ∈ wsL_law := mr_9 _ (List.mem_of_getElem? (i := 10) rfl)
theorem uM_X5_95 : Cond.methodLink RX5 95 yX5_has ∈ wsL_law := mr_9 _ (List.mem_of_getElem? (i := 11) rfl)
theorem uS_X5_has : Cond.static yX5_has ∈ wsL_law := mr_9 _ (List.mem_of_getElem? (i := 12) rfl)
theorem uC_X5_has : Cond.code yX5_has cX5_has 2 (some .boolean) ∈ wsL_law := mr_9 _ (List.mem_of_getElem? (i := 13) rfl)
theorem uM_L_61 : Cond.methodLink RL 61 yX4_run ∈ wsL_law := mr_9 _ (List.mem_of_getElem? (i := 14) rfl)
theorem uI_X4_run : Cond.instanceMethod yX4_run ∈ wsL_law := mr_9 _ (List.mem_of_getElem? (i := 15) rfl)
theorem uE_X4_run : Cond.selects RX4 yX4_run yX4_run ∈ wsL_law := mr_9 _ (List.mem_of_getElem? (i := 16) rfl)
theorem uC_X4_run : Cond.code yX4_run cX4_run 5 (some .int) ∈ wsL_law := mr_9 _ (List.mem_of_getElem? (i := 17) rfl)
theorem uF_X4_130 : Cond.fieldLink RX4 130 "AreaGoals" "clashingKinds" "I" ∈ wsL_law := mr_9 _ (List.mem_of_getElem? (i := 18) rfl)
theorem uF_X4_133 : Cond.fieldLink RX4 133 "AreaGoals" "cellsBefore" "I" ∈ wsL_law := mr_9 _ (List.mem_of_getElem? (i := 19) rfl)
theorem uK_X4_148 : Cond.constantLong RX4 148 (4096) ∈ wsL_law := mr_9 _ (List.mem_of_getElem? (i := 20) rfl)
theorem uM_X4_126 : Cond.methodLink RX4 126 yX4_findClashes ∈ wsL_law := mr_9 _ (List.mem_of_getElem? (i := 21) rfl)
theorem uI_X4_findClashes : Cond.instanceMethod yX4_findClashes ∈ wsL_law := mr_9 _ (List.mem_of_getElem? (i := 22) rfl)
theorem uE_X4_findClashes : Cond.selects RX4 yX4_findClashes yX4_findClashes ∈ wsL_law := mr_9 _ (List.mem_of_getElem? (i := 23) rfl)
theorem uC_X4_findClashes : Cond.code yX4_findClashes cX4_findClashes 3 (some .int) ∈ wsL_law := mr_10 _ (List.mem_of_getElem? (i := 0) rfl)
theorem uI_X2_openSet : Cond.instanceMethod yX2_openSet ∈ wsL_law := mr_10 _ (List.mem_of_getElem? (i := 1) rfl)
theorem uE_X2_openSet : Cond.selects RX2 yX2_openSet yX2_openSet ∈ wsL_law := mr_10 _ (List.mem_of_getElem? (i := 2) rfl)
theorem uC_X2_openSet : Cond.code yX2_openSet cX2_openSet 1 (some .int) ∈ wsL_law := mr_10 _ (List.mem_of_getElem? (i := 3) rfl)
theorem uF_X2_55 : Cond.fieldLink RX2 55 "AreaGoals$Sea" "barred" "I" ∈ wsL_law := mr_10 _ (List.mem_of_getElem? (i := 4) rfl)
theorem uI_X3_begin : Cond.instanceMethod yX3_begin ∈ wsL_law := mr_10 _ (List.mem_of_getElem? (i := 5) rfl)
theorem uE_X3_begin : Cond.selects RX3 yX3_begin yX3_begin ∈ wsL_law := mr_10 _ (List.mem_of_getElem? (i := 6) rfl)
theorem uC_X3_begin : Cond.code yX3_begin cX3_begin 3 none ∈ wsL_law := mr_10 _ (List.mem_of_getElem? (i := 7) rfl)
theorem uF_X3_22 : Cond.fieldLink RX3 22 "AreaGoals$Tally" "cells" "I" ∈ wsL_law := mr_10 _ (List.mem_of_getElem? (i := 8) rfl)
theorem uF_X3_26 : Cond.fieldLink RX3 26 "AreaGoals$Tally" "farPairs" "I" ∈ wsL_law := mr_10 _ (List.mem_of_getElem? (i := 9) rfl)
theorem uF_X3_29 : Cond.fieldLink RX3 29 "AreaGoals$Tally" "cellCosts" "J" ∈ wsL_law := mr_10 _ (List.mem_of_getElem? (i := 10) rfl)
theorem uF_X3_33 : Cond.fieldLink RX3 33 "AreaGoals$Tally" "borderLength" "J" ∈ wsL_law := mr_10 _ (List.mem_of_getElem? (i := 11) rfl)
theorem uM_X3_43 : Cond.methodLink RX3 43 yX3_exchange ∈ wsL_law := mr_10 _ (List.mem_of_getElem? (i := 12) rfl)
theorem uI_X3_exchange : Cond.instanceMethod yX3_exchange ∈ wsL_law := mr_10 _ (List.mem_of_getElem? (i := 13) rfl)
theorem uE_X3_exchange : Cond.selects RX3 yX3_exchange yX3_exchange ∈ wsL_law := mr_10 _ (List.mem_of_getElem? (i := 14) rfl)
theorem uC_X3_exchange : Cond.code yX3_exchange cX3_exchange 5 none ∈ wsL_law := mr_10 _ (List.mem_of_getElem? (i := 15) rfl)
theorem uM_X3_51 : Cond.methodLink RX3 51 yJ6_bitCount_0f7a4 ∈ wsL_law := mr_10 _ (List.mem_of_getElem? (i := 16) rfl)
theorem uS_J6_bitCount_0f7a4 : Cond.static yJ6_bitCount_0f7a4 ∈ wsL_law := mr_10 _ (List.mem_of_getElem? (i := 17) rfl)
theorem uN_J6 : Cond.initialized RJ6 ∈ wsL_law := mr_10 _ (List.mem_of_getElem? (i := 18) rfl)
theorem uC_J6_bitCount_0f7a4 : Cond.code yJ6_bitCount_0f7a4 cJ6_bitCount_0f7a4 1 (some .int) ∈ wsL_law := mr_10 _ (List.mem_of_getElem? (i := 19) rfl)
theorem uK_J6_265 : Cond.constant RJ6 265 (1431655765) ∈ wsL_law := mr_10 _ (List.mem_of_getElem? (i := 20) rfl)
theorem uK_J6_266 : Cond.constant RJ6 266 (858993459) ∈ wsL_law := mr_10 _ (List.mem_of_getElem? (i := 21) rfl)
theorem uK_J6_267 : Cond.constant RJ6 267 (252645135) ∈ wsL_law := mr_10 _ (List.mem_of_getElem? (i := 22) rfl)
theorem uM_X3_60 : Cond.methodLink RX3 60 yX3_borderGainedBy ∈ wsL_law := mr_10 _ (List.mem_of_getElem? (i := 23) rfl)
theorem uI_X3_borderGainedBy : Cond.instanceMethod yX3_borderGainedBy ∈ wsL_law := mr_11 _ (List.mem_of_getElem? (i := 0) rfl)
theorem uE_X3_borderGainedBy : Cond.selects RX3 yX3_borderGainedBy yX3_borderGainedBy ∈ wsL_law := mr_11 _ (List.mem_of_getElem? (i := 1) rfl)
theorem uC_X3_borderGainedBy : Cond.code yX3_borderGainedBy cX3_borderGainedBy 8 (some .long) ∈ wsL_law := mr_11 _ (List.mem_of_getElem? (i := 2) rfl)
theorem uI_X3_meetsGoal : Cond.instanceMethod yX3_meetsGoal ∈ wsL_law := mr_11 _ (List.mem_of_getElem? (i := 3) rfl)
theorem uE_X3_meetsGoal : Cond.selects RX3 yX3_meetsGoal yX3_meetsGoal ∈ wsL_law := mr_11 _ (List.mem_of_getElem? (i := 4) rfl)
theorem uC_X3_meetsGoal : Cond.code yX3_meetsGoal cX3_meetsGoal 2 (some .boolean) ∈ wsL_law := mr_11 _ (List.mem_of_getElem? (i := 5) rfl)
theorem uI_X0_clear : Cond.instanceMethod yX0_clear ∈ wsL_law := mr_11 _ (List.mem_of_getElem? (i := 6) rfl)
theorem uE_X0_clear : Cond.selects RX0 yX0_clear yX0_clear ∈ wsL_law := mr_11 _ (List.mem_of_getElem? (i := 7) rfl)
theorem uC_X0_clear : Cond.code yX0_clear cX0_clear 1 none ∈ wsL_law := mr_11 _ (List.mem_of_getElem? (i := 8) rfl)
theorem uF_X0_17 : Cond.fieldLink RX0 17 "AreaGoals$Choice" "there" "Z" ∈ wsL_law := mr_11 _ (List.mem_of_getElem? (i := 9) rfl)
theorem uF_X0_21 : Cond.fieldLink RX0 21 "AreaGoals$Choice" "cells" "I" ∈ wsL_law := mr_11 _ (List.mem_of_getElem? (i := 10) rfl)
theorem uI_X2_freeSet : Cond.instanceMethod yX2_freeSet ∈ wsL_law := mr_11 _ (List.mem_of_getElem? (i := 11) rfl)
theorem uE_X2_freeSet : Cond.selects RX2 yX2_freeSet yX2_freeSet ∈ wsL_law := mr_11 _ (List.mem_of_getElem? (i := 12) rfl)
theorem uC_X2_freeSet : Cond.code yX2_freeSet cX2_freeSet 1 (some .int) ∈ wsL_law := mr_11 _ (List.mem_of_getElem? (i := 13) rfl)
theorem uF_X2_62 : Cond.fieldLink RX2 62 "AreaGoals$Sea" "needed" "I" ∈ wsL_law := mr_11 _ (List.mem_of_getElem? (i := 14) rfl)
theorem uM_X2_58 : Cond.methodLink RX2 58 yX2_openSet ∈ wsL_law := mr_11 _ (List.mem_of_getElem? (i := 15) rfl)
theorem uM_X4_142 : Cond.methodLink RX4 142 yJ6_bitCount_0f7a4 ∈ wsL_law := mr_11 _ (List.mem_of_getElem? (i := 16) rfl)
theorem uI_X2_costsOf : Cond.instanceMethod yX2_costsOf ∈ wsL_law := mr_11 _ (List.mem_of_getElem? (i := 17) rfl)
theorem uE_X2_costsOf : Cond.selects RX2 yX2_costsOf yX2_costsOf ∈ wsL_law := mr_11 _ (List.mem_of_getElem? (i := 18) rfl)
theorem uC_X2_costsOf : Cond.code yX2_costsOf cX2_costsOf 5 (some .long) ∈ wsL_law := mr_11 _ (List.mem_of_getElem? (i := 19) rfl)
theorem uM_X4_154 : Cond.methodLink RX4 154 yX4_search ∈ wsL_law := mr_11 _ (List.mem_of_getElem? (i := 20) rfl)
theorem uI_X4_search : Cond.instanceMethod yX4_search ∈ wsL_law := mr_11 _ (List.mem_of_getElem? (i := 21) rfl)
theorem uE_X4_search : Cond.selects RX4 yX4_search yX4_search ∈ wsL_law := mr_11 _ (List.mem_of_getElem? (i := 22) rfl)
theorem uC_X4_search : Cond.code yX4_search cX4_search 5 none ∈ wsL_law := mr_11 _ (List.mem_of_getElem? (i := 23) rfl)
theorem uM_X4_235 : Cond.methodLink RX4 235 yX4_listFreeCells ∈ wsL_law := mr_12 _ (List.mem_of_getElem? (i := 0) rfl)
theorem uI_X4_listFreeCells : Cond.instanceMethod yX4_listFreeCells ∈ wsL_law := mr_12 _ (List.mem_of_getElem? (i := 1) rfl)
theorem uE_X4_listFreeCells : Cond.selects RX4 yX4_listFreeCells yX4_listFreeCells ∈ wsL_law := mr_12 _ (List.mem_of_getElem? (i := 2) rfl)
theorem uC_X4_listFreeCells : Cond.code yX4_listFreeCells cX4_listFreeCells 4 (some .int) ∈ wsL_law := mr_12 _ (List.mem_of_getElem? (i := 3) rfl)
theorem uM_X4_238 : Cond.methodLink RX4 238 yX4_considerTally ∈ wsL_law := mr_12 _ (List.mem_of_getElem? (i := 4) rfl)
theorem uI_X4_considerTally : Cond.instanceMethod yX4_considerTally ∈ wsL_law := mr_12 _ (List.mem_of_getElem? (i := 5) rfl)
theorem uE_X4_considerTally : Cond.selects RX4 yX4_considerTally yX4_considerTally ∈ wsL_law := mr_12 _ (List.mem_of_getElem? (i := 6) rfl)
theorem uC_X4_considerTally : Cond.code yX4_considerTally cX4_considerTally 3 none ∈ wsL_law := mr_12 _ (List.mem_of_getElem? (i := 7) rfl)
theorem uI_X3_price : Cond.instanceMethod yX3_price ∈ wsL_law := mr_12 _ (List.mem_of_getElem? (i := 8) rfl)
theorem uE_X3_price : Cond.selects RX3 yX3_price yX3_price ∈ wsL_law := mr_12 _ (List.mem_of_getElem? (i := 9) rfl)
theorem uC_X3_price : Cond.code yX3_price cX3_price 1 (some .long) ∈ wsL_law := mr_12 _ (List.mem_of_getElem? (i := 10) rfl)
theorem uI_X0_isBeatenBy : Cond.instanceMethod yX0_isBeatenBy ∈ wsL_law := mr_12 _ (List.mem_of_getElem? (i := 11) rfl)
theorem uE_X0_isBeatenBy : Cond.selects RX0 yX0_isBeatenBy yX0_isBeatenBy ∈ wsL_law := mr_12 _ (List.mem_of_getElem? (i := 12) rfl)
theorem uC_X0_isBeatenBy : Cond.code yX0_isBeatenBy cX0_isBeatenBy 6 (some .boolean) ∈ wsL_law := mr_12 _ (List.mem_of_getElem? (i := 13) rfl)
theorem uM_X0_25 : Cond.methodLink RX0 25 yJ6_bitCount_0f7a4 ∈ wsL_law := mr_12 _ (List.mem_of_getElem? (i := 14) rfl)
theorem uI_X3_stands : Cond.instanceMethod yX3_stands ∈ wsL_law := mr_12 _ (List.mem_of_getElem? (i := 15) rfl)
theorem uE_X3_stands : Cond.selects RX3 yX3_stands yX3_stands ∈ wsL_law := mr_12 _ (List.mem_of_getElem? (i := 16) rfl)
theorem uC_X3_stands : Cond.code yX3_stands cX3_stands 1 (some .boolean) ∈ wsL_law := mr_12 _ (List.mem_of_getElem? (i := 17) rfl)
theorem uM_X3_81 : Cond.methodLink RX3 81 yX3_meetsGoals ∈ wsL_law := mr_12 _ (List.mem_of_getElem? (i := 18) rfl)
theorem uI_X3_meetsGoals : Cond.instanceMethod yX3_meetsGoals ∈ wsL_law := mr_12 _ (List.mem_of_getElem? (i := 19) rfl)
theorem uE_X3_meetsGoals : Cond.selects RX3 yX3_meetsGoals yX3_meetsGoals ∈ wsL_law := mr_12 _ (List.mem_of_getElem? (i := 20) rfl)
theorem uC_X3_meetsGoals : Cond.code yX3_meetsGoals cX3_meetsGoals 2 (some .boolean) ∈ wsL_law := mr_12 _ (List.mem_of_getElem? (i := 21) rfl)
theorem uM_X3_88 : Cond.methodLink RX3 88 yX3_meetsGoal ∈ wsL_law := mr_12 _ (List.mem_of_getElem? (i := 22) rfl)
theorem uM_X3_85 : Cond.methodLink RX3 85 yX3_isFair ∈ wsL_law := mr_12 _ (List.mem_of_getElem? (i := 23) rfl)
theorem uI_X3_isFair : Cond.instanceMethod yX3_isFair ∈ wsL_law := mr_13 _ (List.mem_of_getElem? (i := 0) rfl)
theorem uE_X3_isFair : Cond.selects RX3 yX3_isFair yX3_isFair ∈ wsL_law := mr_13 _ (List.mem_of_getElem? (i := 1) rfl)
theorem uC_X3_isFair : Cond.code yX3_isFair cX3_isFair 2 (some .boolean) ∈ wsL_law := mr_13 _ (List.mem_of_getElem? (i := 2) rfl)
theorem uI_X0_take : Cond.instanceMethod yX0_take ∈ wsL_law := mr_13 _ (List.mem_of_getElem? (i := 3) rfl)
theorem uE_X0_take : Cond.selects RX0 yX0_take yX0_take ∈ wsL_law := mr_13 _ (List.mem_of_getElem? (i := 4) rfl)
theorem uC_X0_take : Cond.code yX0_take cX0_take 4 none ∈ wsL_law := mr_13 _ (List.mem_of_getElem? (i := 5) rfl)
theorem uM_L_64 : Cond.methodLink RL 64 yX5_run ∈ wsL_law := mr_13 _ (List.mem_of_getElem? (i := 6) rfl)
theorem uI_X5_run : Cond.instanceMethod yX5_run ∈ wsL_law := mr_13 _ (List.mem_of_getElem? (i := 7) rfl)
theorem uE_X5_run : Cond.selects RX5 yX5_run yX5_run ∈ wsL_law := mr_13 _ (List.mem_of_getElem? (i := 8) rfl)
theorem uC_X5_run : Cond.code yX5_run cX5_run 16 (some .int) ∈ wsL_law := mr_13 _ (List.mem_of_getElem? (i := 9) rfl)
theorem uF_X5_133 : Cond.fieldLink RX5 133 "AreaGoalsModel" "hasRun" "Z" ∈ wsL_law := mr_13 _ (List.mem_of_getElem? (i := 10) rfl)
theorem uF_X5_136 : Cond.fieldLink RX5 136 "AreaGoalsModel" "clashes" "I" ∈ wsL_law := mr_13 _ (List.mem_of_getElem? (i := 11) rfl)
theorem uF_X5_146 : Cond.fieldLink RX5 146 "AreaGoalsModel" "bound" "J" ∈ wsL_law := mr_13 _ (List.mem_of_getElem? (i := 12) rfl)
theorem uF_X5_149 : Cond.fieldLink RX5 149 "AreaGoalsModel" "answer" "I" ∈ wsL_law := mr_13 _ (List.mem_of_getElem? (i := 13) rfl)
theorem uK_X5_161 : Cond.constantLong RX5 161 (-1) ∈ wsL_law := mr_13 _ (List.mem_of_getElem? (i := 14) rfl)
theorem uM_X5_139 : Cond.methodLink RX5 139 yX5_open ∈ wsL_law := mr_13 _ (List.mem_of_getElem? (i := 15) rfl)
theorem uI_X5_open : Cond.instanceMethod yX5_open ∈ wsL_law := mr_13 _ (List.mem_of_getElem? (i := 16) rfl)
theorem uE_X5_open : Cond.selects RX5 yX5_open yX5_open ∈ wsL_law := mr_13 _ (List.mem_of_getElem? (i := 17) rfl)
theorem uC_X5_open : Cond.code yX5_open cX5_open 3 (some .int) ∈ wsL_law := mr_13 _ (List.mem_of_getElem? (i := 18) rfl)
theorem uM_X5_111 : Cond.methodLink RX5 111 yX5_meets ∈ wsL_law := mr_13 _ (List.mem_of_getElem? (i := 19) rfl)
theorem uI_X5_meets : Cond.instanceMethod yX5_meets ∈ wsL_law := mr_13 _ (List.mem_of_getElem? (i := 20) rfl)
theorem uE_X5_meets : Cond.selects RX5 yX5_meets yX5_meets ∈ wsL_law := mr_13 _ (List.mem_of_getElem? (i := 21) rfl)
theorem uC_X5_meets : Cond.code yX5_meets cX5_meets 3 (some .boolean) ∈ wsL_law := mr_13 _ (List.mem_of_getElem? (i := 22) rfl)
theorem uM_X5_99 : Cond.methodLink RX5 99 yX5_amount ∈ wsL_law := mr_13 _ (List.mem_of_getElem? (i := 23) rfl)
theorem uI_X5_amount : Cond.instanceMethod yX5_amount ∈ wsL_law := mr_14 _ (List.mem_of_getElem? (i := 0) rfl)
theorem uE_X5_amount : Cond.selects RX5 yX5_amount yX5_amount ∈ wsL_law := mr_14 _ (List.mem_of_getElem? (i := 1) rfl)
theorem uC_X5_amount : Cond.code yX5_amount cX5_amount 6 (some .long) ∈ wsL_law := mr_14 _ (List.mem_of_getElem? (i := 2) rfl)
theorem uM_X5_103 : Cond.methodLink RX5 103 yX5_all ∈ wsL_law := mr_14 _ (List.mem_of_getElem? (i := 3) rfl)
theorem uI_X5_all : Cond.instanceMethod yX5_all ∈ wsL_law := mr_14 _ (List.mem_of_getElem? (i := 4) rfl)
theorem uE_X5_all : Cond.selects RX5 yX5_all yX5_all ∈ wsL_law := mr_14 _ (List.mem_of_getElem? (i := 5) rfl)
theorem uC_X5_all : Cond.code yX5_all cX5_all 1 (some .int) ∈ wsL_law := mr_14 _ (List.mem_of_getElem? (i := 6) rfl)
theorem uM_X5_142 : Cond.methodLink RX5 142 yX5_become ∈ wsL_law := mr_14 _ (List.mem_of_getElem? (i := 7) rfl)
theorem uI_X5_become : Cond.instanceMethod yX5_become ∈ wsL_law := mr_14 _ (List.mem_of_getElem? (i := 8) rfl)
theorem uE_X5_become : Cond.selects RX5 yX5_become yX5_become ∈ wsL_law := mr_14 _ (List.mem_of_getElem? (i := 9) rfl)
theorem uC_X5_become : Cond.code yX5_become cX5_become 5 none ∈ wsL_law := mr_14 _ (List.mem_of_getElem? (i := 10) rfl)
theorem uF_X5_127 : Cond.fieldLink RX5 127 "AreaGoalsModel" "earlier" "I" ∈ wsL_law := mr_14 _ (List.mem_of_getElem? (i := 11) rfl)
theorem uF_X5_130 : Cond.fieldLink RX5 130 "AreaGoalsModel" "cost" "J" ∈ wsL_law := mr_14 _ (List.mem_of_getElem? (i := 12) rfl)
theorem uM_X5_152 : Cond.methodLink RX5 152 yX5_costOf ∈ wsL_law := mr_14 _ (List.mem_of_getElem? (i := 13) rfl)
theorem uI_X5_costOf : Cond.instanceMethod yX5_costOf ∈ wsL_law := mr_14 _ (List.mem_of_getElem? (i := 14) rfl)
theorem uE_X5_costOf : Cond.selects RX5 yX5_costOf yX5_costOf ∈ wsL_law := mr_14 _ (List.mem_of_getElem? (i := 15) rfl)
theorem uC_X5_costOf : Cond.code yX5_costOf cX5_costOf 5 (some .long) ∈ wsL_law := mr_14 _ (List.mem_of_getElem? (i := 16) rfl)
theorem uM_X5_117 : Cond.methodLink RX5 117 yX5_borderOf ∈ wsL_law := mr_14 _ (List.mem_of_getElem? (i := 17) rfl)
theorem uI_X5_borderOf : Cond.instanceMethod yX5_borderOf ∈ wsL_law := mr_14 _ (List.mem_of_getElem? (i := 18) rfl)
theorem uE_X5_borderOf : Cond.selects RX5 yX5_borderOf yX5_borderOf ∈ wsL_law := mr_14 _ (List.mem_of_getElem? (i := 19) rfl)
theorem uC_X5_borderOf : Cond.code yX5_borderOf cX5_borderOf 6 (some .long) ∈ wsL_law := mr_14 _ (List.mem_of_getElem? (i := 20) rfl)
theorem uM_X5_155 : Cond.methodLink RX5 155 yX5_isBefore ∈ wsL_law := mr_14 _ (List.mem_of_getElem? (i := 21) rfl)
theorem uI_X5_isBefore : Cond.instanceMethod yX5_isBefore ∈ wsL_law := mr_14 _ (List.mem_of_getElem? (i := 22) rfl)
theorem uE_X5_isBefore : Cond.selects RX5 yX5_isBefore yX5_isBefore ∈ wsL_law := mr_14 _ (List.mem_of_getElem? (i := 23) rfl)
theorem uC_X5_isBefore : Cond.code yX5_isBefore cX5_isBefore 6 (some .boolean) ∈ wsL_law := mr_15 _ (List.mem_of_getElem? (i := 0) rfl)
theorem uM_X5_107 : Cond.methodLink RX5 107 yX5_count ∈ wsL_law := mr_15 _ (List.mem_of_getElem? (i := 1) rfl)
theorem uI_X5_count : Cond.instanceMethod yX5_count ∈ wsL_law := mr_15 _ (List.mem_of_getElem? (i := 2) rfl)
theorem uE_X5_count : Cond.selects RX5 yX5_count yX5_count ∈ wsL_law := mr_15 _ (List.mem_of_getElem? (i := 3) rfl)
theorem uC_X5_count : Cond.code yX5_count cX5_count 4 (some .int) ∈ wsL_law := mr_15 _ (List.mem_of_getElem? (i := 4) rfl)
theorem uM_X5_158 : Cond.methodLink RX5 158 yX5_stands ∈ wsL_law := mr_15 _ (List.mem_of_getElem? (i := 5) rfl)
theorem uI_X5_stands : Cond.instanceMethod yX5_stands ∈ wsL_law := mr_15 _ (List.mem_of_getElem? (i := 6) rfl)
theorem uE_X5_stands : Cond.selects RX5 yX5_stands yX5_stands ∈ wsL_law := mr_15 _ (List.mem_of_getElem? (i := 7) rfl)
theorem uC_X5_stands : Cond.code yX5_stands cX5_stands 4 (some .boolean) ∈ wsL_law := mr_15 _ (List.mem_of_getElem? (i := 8) rfl)
theorem uF_X5_90 : Cond.fieldLink RX5 90 "AreaGoalsModel" "least" "I" ∈ wsL_law := mr_15 _ (List.mem_of_getElem? (i := 9) rfl)
theorem uF_X5_80 : Cond.fieldLink RX5 80 "AreaGoalsModel" "isFair" "Z" ∈ wsL_law := mr_15 _ (List.mem_of_getElem? (i := 10) rfl)
theorem uF_X5_87 : Cond.fieldLink RX5 87 "AreaGoalsModel" "fairBelow" "J" ∈ wsL_law := mr_15 _ (List.mem_of_getElem? (i := 11) rfl)
theorem uF_X5_84 : Cond.fieldLink RX5 84 "AreaGoalsModel" "fairAbove" "J" ∈ wsL_law := mr_15 _ (List.mem_of_getElem? (i := 12) rfl)
theorem uM_X5_114 : Cond.methodLink RX5 114 yX5_hoursIn ∈ wsL_law := mr_15 _ (List.mem_of_getElem? (i := 13) rfl)
theorem uI_X5_hoursIn : Cond.instanceMethod yX5_hoursIn ∈ wsL_law := mr_15 _ (List.mem_of_getElem? (i := 14) rfl)
theorem uE_X5_hoursIn : Cond.selects RX5 yX5_hoursIn yX5_hoursIn ∈ wsL_law := mr_15 _ (List.mem_of_getElem? (i := 15) rfl)
theorem uC_X5_hoursIn : Cond.code yX5_hoursIn cX5_hoursIn 6 (some .long) ∈ wsL_law := mr_15 _ (List.mem_of_getElem? (i := 16) rfl)
theorem uM_L_65 : Cond.methodLink RL 65 yX4_chosen ∈ wsL_law := mr_15 _ (List.mem_of_getElem? (i := 17) rfl)
theorem uI_X4_chosen : Cond.instanceMethod yX4_chosen ∈ wsL_law := mr_15 _ (List.mem_of_getElem? (i := 18) rfl)
theorem uE_X4_chosen : Cond.selects RX4 yX4_chosen yX4_chosen ∈ wsL_law := mr_15 _ (List.mem_of_getElem? (i := 19) rfl)
theorem uC_X4_chosen : Cond.code yX4_chosen cX4_chosen 2 (some .boolean) ∈ wsL_law := mr_15 _ (List.mem_of_getElem? (i := 20) rfl)
theorem uM_L_68 : Cond.methodLink RL 68 yX5_chosen ∈ wsL_law := mr_15 _ (List.mem_of_getElem? (i := 21) rfl)
theorem uI_X5_chosen : Cond.instanceMethod yX5_chosen ∈ wsL_law := mr_15 _ (List.mem_of_getElem? (i := 22) rfl)
theorem uE_X5_chosen : Cond.selects RX5 yX5_chosen yX5_chosen ∈ wsL_law := mr_15 _ (List.mem_of_getElem? (i := 23) rfl)
theorem uC_X5_chosen : Cond.code yX5_chosen cX5_chosen 2 (some .boolean) ∈ wsL_law := mr_16 _ (List.mem_of_getElem? (i := 0) rfl)
theorem uM_L_69 : Cond.methodLink RL 69 yX4_cost ∈ wsL_law := mr_16 _ (List.mem_of_getElem? (i := 1) rfl)
theorem uI_X4_cost : Cond.instanceMethod yX4_cost ∈ wsL_law := mr_16 _ (List.mem_of_getElem? (i := 2) rfl)
theorem uE_X4_cost : Cond.selects RX4 yX4_cost yX4_cost ∈ wsL_law := mr_16 _ (List.mem_of_getElem? (i := 3) rfl)
theorem uC_X4_cost : Cond.code yX4_cost cX4_cost 1 (some .long) ∈ wsL_law := mr_16 _ (List.mem_of_getElem? (i := 4) rfl)
theorem uM_L_73 : Cond.methodLink RL 73 yX5_cost ∈ wsL_law := mr_16 _ (List.mem_of_getElem? (i := 5) rfl)
theorem uI_X5_cost : Cond.instanceMethod yX5_cost ∈ wsL_law := mr_16 _ (List.mem_of_getElem? (i := 6) rfl)
theorem uE_X5_cost : Cond.selects RX5 yX5_cost yX5_cost ∈ wsL_law := mr_16 _ (List.mem_of_getElem? (i := 7) rfl)
theorem uC_X5_cost : Cond.code yX5_cost cX5_cost 1 (some .long) ∈ wsL_law := mr_16 _ (List.mem_of_getElem? (i := 8) rfl)
theorem uM_L_74 : Cond.methodLink RL 74 yX4_bound ∈ wsL_law := mr_16 _ (List.mem_of_getElem? (i := 9) rfl)
theorem uI_X4_bound : Cond.instanceMethod yX4_bound ∈ wsL_law := mr_16 _ (List.mem_of_getElem? (i := 10) rfl)
theorem uE_X4_bound : Cond.selects RX4 yX4_bound yX4_bound ∈ wsL_law := mr_16 _ (List.mem_of_getElem? (i := 11) rfl)
theorem uC_X4_bound : Cond.code yX4_bound cX4_bound 1 (some .long) ∈ wsL_law := mr_16 _ (List.mem_of_getElem? (i := 12) rfl)
theorem uM_L_77 : Cond.methodLink RL 77 yX5_bound ∈ wsL_law := mr_16 _ (List.mem_of_getElem? (i := 13) rfl)
theorem uI_X5_bound : Cond.instanceMethod yX5_bound ∈ wsL_law := mr_16 _ (List.mem_of_getElem? (i := 14) rfl)
theorem uE_X5_bound : Cond.selects RX5 yX5_bound yX5_bound ∈ wsL_law := mr_16 _ (List.mem_of_getElem? (i := 15) rfl)
theorem uC_X5_bound : Cond.code yX5_bound cX5_bound 1 (some .long) ∈ wsL_law := mr_16 _ (List.mem_of_getElem? (i := 16) rfl)
theorem uM_L_78 : Cond.methodLink RL 78 yX4_met ∈ wsL_law := mr_16 _ (List.mem_of_getElem? (i := 17) rfl)
theorem uI_X4_met : Cond.instanceMethod yX4_met ∈ wsL_law := mr_16 _ (List.mem_of_getElem? (i := 18) rfl)
theorem uE_X4_met : Cond.selects RX4 yX4_met yX4_met ∈ wsL_law := mr_16 _ (List.mem_of_getElem? (i := 19) rfl)
theorem uC_X4_met : Cond.code yX4_met cX4_met 3 (some .long) ∈ wsL_law := mr_16 _ (List.mem_of_getElem? (i := 20) rfl)
theorem uM_X4_168 : Cond.methodLink RX4 168 yX4_partOf ∈ wsL_law := mr_16 _ (List.mem_of_getElem? (i := 21) rfl)
theorem uS_X4_partOf : Cond.static yX4_partOf ∈ wsL_law := mr_16 _ (List.mem_of_getElem? (i := 22) rfl)
theorem uC_X4_partOf : Cond.code yX4_partOf cX4_partOf 7 (some .long) ∈ wsL_law := mr_16 _ (List.mem_of_getElem? (i := 23) rfl)
theorem uM_X4_225 : Cond.methodLink RX4 225 yX4_commonDivisor ∈ wsL_law := mr_17 _ (List.mem_of_getElem? (i := 0) rfl)
theorem uS_X4_commonDivisor : Cond.static yX4_commonDivisor ∈ wsL_law := mr_17 _ (List.mem_of_getElem? (i := 1) rfl)
theorem uC_X4_commonDivisor : Cond.code yX4_commonDivisor cX4_commonDivisor 11 (some .long) ∈ wsL_law := mr_17 _ (List.mem_of_getElem? (i := 2) rfl)
theorem uM_L_82 : Cond.methodLink RL 82 yX5_met ∈ wsL_law := mr_17 _ (List.mem_of_getElem? (i := 3) rfl)
theorem uI_X5_met : Cond.instanceMethod yX5_met ∈ wsL_law := mr_17 _ (List.mem_of_getElem? (i := 4) rfl)
theorem uE_X5_met : Cond.selects RX5 yX5_met yX5_met ∈ wsL_law := mr_17 _ (List.mem_of_getElem? (i := 5) rfl)
theorem uC_X5_met : Cond.code yX5_met cX5_met 3 (some .long) ∈ wsL_law := mr_17 _ (List.mem_of_getElem? (i := 6) rfl)
theorem uM_X5_179 : Cond.methodLink RX5 179 yX5_part ∈ wsL_law := mr_17 _ (List.mem_of_getElem? (i := 7) rfl)
theorem uS_X5_part : Cond.static yX5_part ∈ wsL_law := mr_17 _ (List.mem_of_getElem? (i := 8) rfl)
theorem uC_X5_part : Cond.code yX5_part cX5_part 11 (some .long) ∈ wsL_law := mr_17 _ (List.mem_of_getElem? (i := 9) rfl)
theorem uM_L_83 : Cond.methodLink RL 83 yX4_clash ∈ wsL_law := mr_17 _ (List.mem_of_getElem? (i := 10) rfl)
theorem uI_X4_clash : Cond.instanceMethod yX4_clash ∈ wsL_law := mr_17 _ (List.mem_of_getElem? (i := 11) rfl)
theorem uE_X4_clash : Cond.selects RX4 yX4_clash yX4_clash ∈ wsL_law := mr_17 _ (List.mem_of_getElem? (i := 12) rfl)
theorem uC_X4_clash : Cond.code yX4_clash cX4_clash 2 (some .int) ∈ wsL_law := mr_17 _ (List.mem_of_getElem? (i := 13) rfl)
theorem uM_X4_172 : Cond.methodLink RX4 172 yX4_placeOfBit ∈ wsL_law := mr_17 _ (List.mem_of_getElem? (i := 14) rfl)
theorem uS_X4_placeOfBit : Cond.static yX4_placeOfBit ∈ wsL_law := mr_17 _ (List.mem_of_getElem? (i := 15) rfl)
theorem uC_X4_placeOfBit : Cond.code yX4_placeOfBit cX4_placeOfBit 4 (some .int) ∈ wsL_law := mr_17 _ (List.mem_of_getElem? (i := 16) rfl)
theorem uM_L_87 : Cond.methodLink RL 87 yX5_clash ∈ wsL_law := mr_17 _ (List.mem_of_getElem? (i := 17) rfl)
theorem uI_X5_clash : Cond.instanceMethod yX5_clash ∈ wsL_law := mr_17 _ (List.mem_of_getElem? (i := 18) rfl)
theorem uE_X5_clash : Cond.selects RX5 yX5_clash yX5_clash ∈ wsL_law := mr_17 _ (List.mem_of_getElem? (i := 19) rfl)
theorem uC_X5_clash : Cond.code yX5_clash cX5_clash 4 (some .int) ∈ wsL_law := mr_17 _ (List.mem_of_getElem? (i := 20) rfl)
theorem uM_L_88 : Cond.methodLink RL 88 yX4_proved ∈ wsL_law := mr_17 _ (List.mem_of_getElem? (i := 21) rfl)
theorem uI_X4_proved : Cond.instanceMethod yX4_proved ∈ wsL_law := mr_17 _ (List.mem_of_getElem? (i := 22) rfl)
theorem uE_X4_proved : Cond.selects RX4 yX4_proved yX4_proved ∈ wsL_law := mr_17 _ (List.mem_of_getElem? (i := 23) rfl)
theorem uC_X4_proved : Cond.code yX4_proved cX4_proved 1 (some .boolean) ∈ wsL_law := mr_18 _ (List.mem_of_getElem? (i := 0) rfl)
theorem uM_L_92 : Cond.methodLink RL 92 yX5_proved ∈ wsL_law := mr_18 _ (List.mem_of_getElem? (i := 1) rfl)
theorem uI_X5_proved : Cond.instanceMethod yX5_proved ∈ wsL_law := mr_18 _ (List.mem_of_getElem? (i := 2) rfl)
theorem uE_X5_proved : Cond.selects RX5 yX5_proved yX5_proved ∈ wsL_law := mr_18 _ (List.mem_of_getElem? (i := 3) rfl)
theorem uC_X5_proved : Cond.code yX5_proved cX5_proved 1 (some .boolean) ∈ wsL_law := mr_18 _ (List.mem_of_getElem? (i := 4) rfl)
theorem uM_L_93 : Cond.methodLink RL 93 yX4_improve ∈ wsL_law := mr_18 _ (List.mem_of_getElem? (i := 5) rfl)
theorem uI_X4_improve : Cond.instanceMethod yX4_improve ∈ wsL_law := mr_18 _ (List.mem_of_getElem? (i := 6) rfl)
theorem uE_X4_improve : Cond.selects RX4 yX4_improve yX4_improve ∈ wsL_law := mr_18 _ (List.mem_of_getElem? (i := 7) rfl)
theorem uC_X4_improve : Cond.code yX4_improve cX4_improve 3 (some .int) ∈ wsL_law := mr_18 _ (List.mem_of_getElem? (i := 8) rfl)
theorem uM_X4_176 : Cond.methodLink RX4 176 yX4_drawnMoves ∈ wsL_law := mr_18 _ (List.mem_of_getElem? (i := 9) rfl)
theorem uI_X4_drawnMoves : Cond.instanceMethod yX4_drawnMoves ∈ wsL_law := mr_18 _ (List.mem_of_getElem? (i := 10) rfl)
theorem uE_X4_drawnMoves : Cond.selects RX4 yX4_drawnMoves yX4_drawnMoves ∈ wsL_law := mr_18 _ (List.mem_of_getElem? (i := 11) rfl)
theorem uC_X4_drawnMoves : Cond.code yX4_drawnMoves cX4_drawnMoves 8 (some .int) ∈ wsL_law := mr_18 _ (List.mem_of_getElem? (i := 12) rfl)
theorem uI_X1_next : Cond.instanceMethod yX1_next ∈ wsL_law := mr_18 _ (List.mem_of_getElem? (i := 13) rfl)
theorem uE_X1_next : Cond.selects RX1 yX1_next yX1_next ∈ wsL_law := mr_18 _ (List.mem_of_getElem? (i := 14) rfl)
theorem uC_X1_next : Cond.code yX1_next cX1_next 1 (some .long) ∈ wsL_law := mr_18 _ (List.mem_of_getElem? (i := 15) rfl)
theorem uM_L_96 : Cond.methodLink RL 96 yX5_improve ∈ wsL_law := mr_18 _ (List.mem_of_getElem? (i := 16) rfl)
theorem uI_X5_improve : Cond.instanceMethod yX5_improve ∈ wsL_law := mr_18 _ (List.mem_of_getElem? (i := 17) rfl)
theorem uE_X5_improve : Cond.selects RX5 yX5_improve yX5_improve ∈ wsL_law := mr_18 _ (List.mem_of_getElem? (i := 18) rfl)
theorem uC_X5_improve : Cond.code yX5_improve cX5_improve 2 (some .int) ∈ wsL_law := mr_18 _ (List.mem_of_getElem? (i := 19) rfl)
theorem uF_X5_163 : Cond.fieldLink RX5 163 "AreaGoalsModel" "tried" "I" ∈ wsL_law := mr_18 _ (List.mem_of_getElem? (i := 20) rfl)
theorem uF_X5_166 : Cond.fieldLink RX5 166 "AreaGoalsModel" "triedCost" "J" ∈ wsL_law := mr_18 _ (List.mem_of_getElem? (i := 21) rfl)
theorem uF_X5_169 : Cond.fieldLink RX5 169 "AreaGoalsModel" "kept" "I" ∈ wsL_law := mr_18 _ (List.mem_of_getElem? (i := 22) rfl)
theorem uM_X5_175 : Cond.methodLink RX5 175 yX5_steps ∈ wsL_law := mr_18 _ (List.mem_of_getElem? (i := 23) rfl)
theorem uI_X5_steps : Cond.instanceMethod yX5_steps ∈ wsL_law := mr_19 _ (List.mem_of_getElem? (i := 0) rfl)
theorem uE_X5_steps : Cond.selects RX5 yX5_steps yX5_steps ∈ wsL_law := mr_19 _ (List.mem_of_getElem? (i := 1) rfl)
theorem uC_X5_steps : Cond.code yX5_steps cX5_steps 8 (some .long) ∈ wsL_law := mr_19 _ (List.mem_of_getElem? (i := 2) rfl)
theorem uM_X5_172 : Cond.methodLink RX5 172 yX5_next ∈ wsL_law := mr_19 _ (List.mem_of_getElem? (i := 3) rfl)
theorem uS_X5_next : Cond.static yX5_next ∈ wsL_law := mr_19 _ (List.mem_of_getElem? (i := 4) rfl)
theorem uC_X5_next : Cond.code yX5_next cX5_next 4 (some .long) ∈ wsL_law := mr_19 _ (List.mem_of_getElem? (i := 5) rfl)
theorem uM_L_97 : Cond.methodLink RL 97 yX4_often ∈ wsL_law := mr_19 _ (List.mem_of_getElem? (i := 6) rfl)
theorem uI_X4_often : Cond.instanceMethod yX4_often ∈ wsL_law := mr_19 _ (List.mem_of_getElem? (i := 7) rfl)
theorem uE_X4_often : Cond.selects RX4 yX4_often yX4_often ∈ wsL_law := mr_19 _ (List.mem_of_getElem? (i := 8) rfl)
theorem uC_X4_often : Cond.code yX4_often cX4_often 6 (some .long) ∈ wsL_law := mr_19 _ (List.mem_of_getElem? (i := 9) rfl)
theorem uM_L_100 : Cond.methodLink RL 100 yX5_often ∈ wsL_law := mr_19 _ (List.mem_of_getElem? (i := 10) rfl)
theorem uI_X5_often : Cond.instanceMethod yX5_often ∈ wsL_law := mr_19 _ (List.mem_of_getElem? (i := 11) rfl)
theorem uE_X5_often : Cond.selects RX5 yX5_often yX5_often ∈ wsL_law := mr_19 _ (List.mem_of_getElem? (i := 12) rfl)
theorem uC_X5_often : Cond.code yX5_often cX5_often 8 (some .long) ∈ wsL_law := mr_19 _ (List.mem_of_getElem? (i := 13) rfl)
theorem uM_L_101 : Cond.methodLink RL 101 yX4_port ∈ wsL_law := mr_19 _ (List.mem_of_getElem? (i := 14) rfl)
theorem uI_X4_port : Cond.instanceMethod yX4_port ∈ wsL_law := mr_19 _ (List.mem_of_getElem? (i := 15) rfl)
theorem uE_X4_port : Cond.selects RX4 yX4_port yX4_port ∈ wsL_law := mr_19 _ (List.mem_of_getElem? (i := 16) rfl)
theorem uC_X4_port : Cond.code yX4_port cX4_port 5 (some .boolean) ∈ wsL_law := mr_19 _ (List.mem_of_getElem? (i := 17) rfl)
theorem uM_X4_188 : Cond.methodLink RX4 188 yX4_isPort ∈ wsL_law := mr_19 _ (List.mem_of_getElem? (i := 18) rfl)
theorem uS_X4_isPort : Cond.static yX4_isPort ∈ wsL_law := mr_19 _ (List.mem_of_getElem? (i := 19) rfl)
theorem uC_X4_isPort : Cond.code yX4_isPort cX4_isPort 1 (some .boolean) ∈ wsL_law := mr_19 _ (List.mem_of_getElem? (i := 20) rfl)
theorem uI_X2_putHours : Cond.instanceMethod yX2_putHours ∈ wsL_law := mr_19 _ (List.mem_of_getElem? (i := 21) rfl)
theorem uE_X2_putHours : Cond.selects RX2 yX2_putHours yX2_putHours ∈ wsL_law := mr_19 _ (List.mem_of_getElem? (i := 22) rfl)
theorem uC_X2_putHours : Cond.code yX2_putHours cX2_putHours 6 none ∈ wsL_law := mr_19 _ (List.mem_of_getElem? (i := 23) rfl)
theorem uM_L_104 : Cond.methodLink RL 104 yX5_port ∈ wsL_law := mr_20 _ (List.mem_of_getElem? (i := 0) rfl)
theorem uI_X5_port : Cond.instanceMethod yX5_port ∈ wsL_law := mr_20 _ (List.mem_of_getElem? (i := 1) rfl)
theorem uE_X5_port : Cond.selects RX5 yX5_port yX5_port ∈ wsL_law := mr_20 _ (List.mem_of_getElem? (i := 2) rfl)
theorem uC_X5_port : Cond.code yX5_port cX5_port 5 (some .boolean) ∈ wsL_law := mr_20 _ (List.mem_of_getElem? (i := 3) rfl)
theorem uM_X5_77 : Cond.methodLink RX5 77 yX5_isPort ∈ wsL_law := mr_20 _ (List.mem_of_getElem? (i := 4) rfl)
theorem uS_X5_isPort : Cond.static yX5_isPort ∈ wsL_law := mr_20 _ (List.mem_of_getElem? (i := 5) rfl)
theorem uC_X5_isPort : Cond.code yX5_isPort cX5_isPort 1 (some .boolean) ∈ wsL_law := mr_20 _ (List.mem_of_getElem? (i := 6) rfl)
theorem uM_L_105 : Cond.methodLink RL 105 yX4_loss ∈ wsL_law := mr_20 _ (List.mem_of_getElem? (i := 7) rfl)
theorem uI_X4_loss : Cond.instanceMethod yX4_loss ∈ wsL_law := mr_20 _ (List.mem_of_getElem? (i := 8) rfl)
theorem uE_X4_loss : Cond.selects RX4 yX4_loss yX4_loss ∈ wsL_law := mr_20 _ (List.mem_of_getElem? (i := 9) rfl)
theorem uC_X4_loss : Cond.code yX4_loss cX4_loss 3 (some .long) ∈ wsL_law := mr_20 _ (List.mem_of_getElem? (i := 10) rfl)
theorem uM_L_108 : Cond.methodLink RL 108 yX5_loss ∈ wsL_law := mr_20 _ (List.mem_of_getElem? (i := 11) rfl)
theorem uI_X5_loss : Cond.instanceMethod yX5_loss ∈ wsL_law := mr_20 _ (List.mem_of_getElem? (i := 12) rfl)
theorem uE_X5_loss : Cond.selects RX5 yX5_loss yX5_loss ∈ wsL_law := mr_20 _ (List.mem_of_getElem? (i := 13) rfl)
theorem uC_X5_loss : Cond.code yX5_loss cX5_loss 3 (some .long) ∈ wsL_law := mr_20 _ (List.mem_of_getElem? (i := 14) rfl)
theorem uM_L_109 : Cond.methodLink RL 109 yX4_fair ∈ wsL_law := mr_20 _ (List.mem_of_getElem? (i := 15) rfl)
theorem uI_X4_fair : Cond.instanceMethod yX4_fair ∈ wsL_law := mr_20 _ (List.mem_of_getElem? (i := 16) rfl)
theorem uE_X4_fair : Cond.selects RX4 yX4_fair yX4_fair ∈ wsL_law := mr_20 _ (List.mem_of_getElem? (i := 17) rfl)
theorem uC_X4_fair : Cond.code yX4_fair cX4_fair 5 (some .boolean) ∈ wsL_law := mr_20 _ (List.mem_of_getElem? (i := 18) rfl)
theorem uM_L_113 : Cond.methodLink RL 113 yX5_fair ∈ wsL_law := mr_20 _ (List.mem_of_getElem? (i := 19) rfl)
theorem uI_X5_fair : Cond.instanceMethod yX5_fair ∈ wsL_law := mr_20 _ (List.mem_of_getElem? (i := 20) rfl)
theorem uE_X5_fair : Cond.selects RX5 yX5_fair yX5_fair ∈ wsL_law := mr_20 _ (List.mem_of_getElem? (i := 21) rfl)
theorem uC_X5_fair : Cond.code yX5_fair cX5_fair 5 (some .boolean) ∈ wsL_law := mr_20 _ (List.mem_of_getElem? (i := 22) rfl)
theorem uM_L_114 : Cond.methodLink RL 114 yX4_border ∈ wsL_law := mr_20 _ (List.mem_of_getElem? (i := 23) rfl)
theorem uI_X4_border : Cond.instanceMethod yX4_border ∈ wsL_law := mr_21 _ (List.mem_of_getElem? (i := 0) rfl)
theorem uE_X4_border : Cond.selects RX4 yX4_border yX4_border ∈ wsL_law := mr_21 _ (List.mem_of_getElem? (i := 1) rfl)
theorem uC_X4_border : Cond.code yX4_border cX4_border 1 (some .long) ∈ wsL_law := mr_21 _ (List.mem_of_getElem? (i := 2) rfl)
theorem uM_L_117 : Cond.methodLink RL 117 yX5_border ∈ wsL_law := mr_21 _ (List.mem_of_getElem? (i := 3) rfl)
theorem uI_X5_border : Cond.instanceMethod yX5_border ∈ wsL_law := mr_21 _ (List.mem_of_getElem? (i := 4) rfl)
theorem uE_X5_border : Cond.selects RX5 yX5_border yX5_border ∈ wsL_law := mr_21 _ (List.mem_of_getElem? (i := 5) rfl)
theorem uC_X5_border : Cond.code yX5_border cX5_border 1 (some .long) ∈ wsL_law := mr_21 _ (List.mem_of_getElem? (i := 6) rfl)
theorem uM_L_118 : Cond.methodLink RL 118 yX4_size ∈ wsL_law := mr_21 _ (List.mem_of_getElem? (i := 7) rfl)
theorem uI_X4_size : Cond.instanceMethod yX4_size ∈ wsL_law := mr_21 _ (List.mem_of_getElem? (i := 8) rfl)
theorem uE_X4_size : Cond.selects RX4 yX4_size yX4_size ∈ wsL_law := mr_21 _ (List.mem_of_getElem? (i := 9) rfl)
theorem uC_X4_size : Cond.code yX4_size cX4_size 2 (some .int) ∈ wsL_law := mr_21 _ (List.mem_of_getElem? (i := 10) rfl)
theorem uM_L_121 : Cond.methodLink RL 121 yX5_size ∈ wsL_law := mr_21 _ (List.mem_of_getElem? (i := 11) rfl)
theorem uI_X5_size : Cond.instanceMethod yX5_size ∈ wsL_law := mr_21 _ (List.mem_of_getElem? (i := 12) rfl)
theorem uE_X5_size : Cond.selects RX5 yX5_size yX5_size ∈ wsL_law := mr_21 _ (List.mem_of_getElem? (i := 13) rfl)
theorem uC_X5_size : Cond.code yX5_size cX5_size 2 (some .int) ∈ wsL_law := mr_21 _ (List.mem_of_getElem? (i := 14) rfl)
theorem uM_L_122 : Cond.methodLink RL 122 yX4_year ∈ wsL_law := mr_21 _ (List.mem_of_getElem? (i := 15) rfl)
theorem uI_X4_year : Cond.instanceMethod yX4_year ∈ wsL_law := mr_21 _ (List.mem_of_getElem? (i := 16) rfl)
theorem uE_X4_year : Cond.selects RX4 yX4_year yX4_year ∈ wsL_law := mr_21 _ (List.mem_of_getElem? (i := 17) rfl)
theorem uC_X4_year : Cond.code yX4_year cX4_year 4 (some .int) ∈ wsL_law := mr_21 _ (List.mem_of_getElem? (i := 18) rfl)
theorem uI_X2_comesBefore : Cond.instanceMethod yX2_comesBefore ∈ wsL_law := mr_21 _ (List.mem_of_getElem? (i := 19) rfl)
theorem uE_X2_comesBefore : Cond.selects RX2 yX2_comesBefore yX2_comesBefore ∈ wsL_law := mr_21 _ (List.mem_of_getElem? (i := 20) rfl)
theorem uC_X2_comesBefore : Cond.code yX2_comesBefore cX2_comesBefore 3 (some .boolean) ∈ wsL_law := mr_21 _ (List.mem_of_getElem? (i := 21) rfl)
theorem uM_L_125 : Cond.methodLink RL 125 yX5_year ∈ wsL_law := mr_21 _ (List.mem_of_getElem? (i := 22) rfl)
theorem uI_X5_year : Cond.instanceMethod yX5_year ∈ wsL_law := mr_21 _ (List.mem_of_getElem? (i := 23) rfl)
theorem uE_X5_year : Cond.selects RX5 yX5_year yX5_year ∈ wsL_law := mr_22 _ (List.mem_of_getElem? (i := 0) rfl)
theorem uC_X5_year : Cond.code yX5_year cX5_year 4 (some .int) ∈ wsL_law := mr_22 _ (List.mem_of_getElem? (i := 1) rfl)
theorem uM_X5_183 : Cond.methodLink RX5 183 yX5_chosen ∈ wsL_law := mr_22 _ (List.mem_of_getElem? (i := 2) rfl)
theorem uM_L_126 : Cond.methodLink RL 126 yX4_wind ∈ wsL_law := mr_22 _ (List.mem_of_getElem? (i := 3) rfl)
theorem uI_X4_wind : Cond.instanceMethod yX4_wind ∈ wsL_law := mr_22 _ (List.mem_of_getElem? (i := 4) rfl)
theorem uE_X4_wind : Cond.selects RX4 yX4_wind yX4_wind ∈ wsL_law := mr_22 _ (List.mem_of_getElem? (i := 5) rfl)
theorem uC_X4_wind : Cond.code yX4_wind cX4_wind 4 (some .boolean) ∈ wsL_law := mr_22 _ (List.mem_of_getElem? (i := 6) rfl)
theorem uK_X4_215 : Cond.constantLong RX4 215 (10000000) ∈ wsL_law := mr_22 _ (List.mem_of_getElem? (i := 7) rfl)
theorem uM_L_130 : Cond.methodLink RL 130 yX5_wind ∈ wsL_law := mr_22 _ (List.mem_of_getElem? (i := 8) rfl)
theorem uI_X5_wind : Cond.instanceMethod yX5_wind ∈ wsL_law := mr_22 _ (List.mem_of_getElem? (i := 9) rfl)
theorem uE_X5_wind : Cond.selects RX5 yX5_wind yX5_wind ∈ wsL_law := mr_22 _ (List.mem_of_getElem? (i := 10) rfl)
theorem uC_X5_wind : Cond.code yX5_wind cX5_wind 4 (some .boolean) ∈ wsL_law := mr_22 _ (List.mem_of_getElem? (i := 11) rfl)
theorem uK_X5_93 : Cond.constantLong RX5 93 (10000000) ∈ wsL_law := mr_22 _ (List.mem_of_getElem? (i := 12) rfl)
theorem uM_L_131 : Cond.methodLink RL 131 yX4_unlike ∈ wsL_law := mr_22 _ (List.mem_of_getElem? (i := 13) rfl)
theorem uI_X4_unlike : Cond.instanceMethod yX4_unlike ∈ wsL_law := mr_22 _ (List.mem_of_getElem? (i := 14) rfl)
theorem uE_X4_unlike : Cond.selects RX4 yX4_unlike yX4_unlike ∈ wsL_law := mr_22 _ (List.mem_of_getElem? (i := 15) rfl)
theorem uC_X4_unlike : Cond.code yX4_unlike cX4_unlike 3 (some .int) ∈ wsL_law := mr_22 _ (List.mem_of_getElem? (i := 16) rfl)
theorem uM_L_134 : Cond.methodLink RL 134 yX5_unlike ∈ wsL_law := mr_22 _ (List.mem_of_getElem? (i := 17) rfl)
theorem uI_X5_unlike : Cond.instanceMethod yX5_unlike ∈ wsL_law := mr_22 _ (List.mem_of_getElem? (i := 18) rfl)
theorem uE_X5_unlike : Cond.selects RX5 yX5_unlike yX5_unlike ∈ wsL_law := mr_22 _ (List.mem_of_getElem? (i := 19) rfl)
theorem uC_X5_unlike : Cond.code yX5_unlike cX5_unlike 4 (some .int) ∈ wsL_law := mr_22 _ (List.mem_of_getElem? (i := 20) rfl)
theorem uM_L_135 : Cond.methodLink RL 135 yX4_far ∈ wsL_law := mr_22 _ (List.mem_of_getElem? (i := 21) rfl)
theorem uI_X4_far : Cond.instanceMethod yX4_far ∈ wsL_law := mr_22 _ (List.mem_of_getElem? (i := 22) rfl)
theorem uE_X4_far : Cond.selects RX4 yX4_far yX4_far ∈ wsL_law := mr_22 _ (List.mem_of_getElem? (i := 23) rfl)
theorem uC_X4_far : Cond.code yX4_far cX4_far 4 (some .boolean) ∈ wsL_law := mr_23 _ (List.mem_of_getElem? (i := 0) rfl)
theorem uM_L_139 : Cond.methodLink RL 139 yX5_far ∈ wsL_law := mr_23 _ (List.mem_of_getElem? (i := 1) rfl)
theorem uI_X5_far : Cond.instanceMethod yX5_far ∈ wsL_law := mr_23 _ (List.mem_of_getElem? (i := 2) rfl)
theorem uE_X5_far : Cond.selects RX5 yX5_far yX5_far ∈ wsL_law := mr_23 _ (List.mem_of_getElem? (i := 3) rfl)
theorem uC_X5_far : Cond.code yX5_far cX5_far 4 (some .boolean) ∈ wsL_law := mr_23 _ (List.mem_of_getElem? (i := 4) rfl)
theorem uM_L_140 : Cond.methodLink RL 140 yX4_tie ∈ wsL_law := mr_23 _ (List.mem_of_getElem? (i := 5) rfl)
theorem uI_X4_tie : Cond.instanceMethod yX4_tie ∈ wsL_law := mr_23 _ (List.mem_of_getElem? (i := 6) rfl)
theorem uE_X4_tie : Cond.selects RX4 yX4_tie yX4_tie ∈ wsL_law := mr_23 _ (List.mem_of_getElem? (i := 7) rfl)
theorem uC_X4_tie : Cond.code yX4_tie cX4_tie 2 (some .int) ∈ wsL_law := mr_23 _ (List.mem_of_getElem? (i := 8) rfl)
theorem uM_X4_220 : Cond.methodLink RX4 220 yX4_findExchangeable ∈ wsL_law := mr_23 _ (List.mem_of_getElem? (i := 9) rfl)
theorem uI_X4_findExchangeable : Cond.instanceMethod yX4_findExchangeable ∈ wsL_law := mr_23 _ (List.mem_of_getElem? (i := 10) rfl)
theorem uE_X4_findExchangeable : Cond.selects RX4 yX4_findExchangeable yX4_findExchangeable ∈ wsL_law := mr_23 _ (List.mem_of_getElem? (i := 11) rfl)
theorem uC_X4_findExchangeable : Cond.code yX4_findExchangeable cX4_findExchangeable 6 (some .int) ∈ wsL_law := mr_23 _ (List.mem_of_getElem? (i := 12) rfl)
theorem uM_L_143 : Cond.methodLink RL 143 yX5_tie ∈ wsL_law := mr_23 _ (List.mem_of_getElem? (i := 13) rfl)
theorem uI_X5_tie : Cond.instanceMethod yX5_tie ∈ wsL_law := mr_23 _ (List.mem_of_getElem? (i := 14) rfl)
theorem uE_X5_tie : Cond.selects RX5 yX5_tie yX5_tie ∈ wsL_law := mr_23 _ (List.mem_of_getElem? (i := 15) rfl)
theorem uC_X5_tie : Cond.code yX5_tie cX5_tie 5 (some .int) ∈ wsL_law := mr_23 _ (List.mem_of_getElem? (i := 16) rfl)
def nwL : List Cond := [Cond.methodLinkNest RX4 9 yX2_init "AreaGoals", Cond.methodLinkNest RX4 18 yX3_init "AreaGoals", Cond.methodLinkNest RX4 27 yX1_init "AreaGoals", Cond.methodLinkNest RX4 32 yX1_start "AreaGoals", Cond.methodLinkNest RX4 41 yX0_init "AreaGoals", Cond.methodLinkNest RX4 73 yX2_hasCell "AreaGoals", Cond.methodLinkNest RX4 86 yX2_putAmount "AreaGoals", Cond.methodLinkNest RX4 99 yX2_hasPair "AreaGoals", Cond.methodLinkNest RX4 229 yX2_openSet "AreaGoals", Cond.methodLinkNest RX4 160 yX3_begin "AreaGoals", Cond.methodLinkNest RX3 39 yX4_hasBit "AreaGoals", Cond.methodLinkNest RX4 232 yX3_meetsGoal "AreaGoals", Cond.methodLinkNest RX4 136 yX0_clear "AreaGoals", Cond.methodLinkNest RX4 139 yX2_freeSet "AreaGoals", Cond.methodLinkNest RX4 150 yX2_costsOf "AreaGoals", Cond.methodLinkNest RX2 65 yX4_hasBit "AreaGoals", Cond.methodLinkNest RX4 181 yX3_price "AreaGoals", Cond.methodLinkNest RX4 244 yX0_isBeatenBy "AreaGoals", Cond.methodLinkNest RX4 248 yX3_stands "AreaGoals", Cond.methodLinkNest RX4 184 yX0_take "AreaGoals", Cond.methodLinkNest RX4 241 yX3_exchange "AreaGoals", Cond.methodLinkNest RX4 252 yX1_next "AreaGoals", Cond.methodLinkNest RX4 191 yX2_putHours "AreaGoals", Cond.methodLinkNest RX4 212 yX2_comesBefore "AreaGoals", Cond.fieldLinkNest RX4 69 "AreaGoals$Sea" "costs" "[J" "AreaGoals", Cond.fieldLinkNest RX3 57 "AreaGoals$Sea" "costs" "[J" "AreaGoals", Cond.fieldLinkNest RX3 64 "AreaGoals$Sea" "amounts" "[J" "AreaGoals", Cond.fieldLinkNest RX4 123 "AreaGoals$Sea" "amounts" "[J" "AreaGoals", Cond.fieldLinkNest RX3 65 "AreaGoals$Sea" "hours" "[J" "AreaGoals", Cond.fieldLinkNest RX3 66 "AreaGoals$Sea" "borders" "[J" "AreaGoals", Cond.fieldLinkNest RX4 103 "AreaGoals$Sea" "borders" "[J" "AreaGoals", Cond.fieldLinkNest RX3 47 "AreaGoals$Sea" "tooFar" "[I" "AreaGoals", Cond.fieldLinkNest RX4 217 "AreaGoals$Sea" "tooFar" "[I" "AreaGoals", Cond.fieldLinkNest RX3 95 "AreaGoals$Sea" "kindTotals" "[J" "AreaGoals", Cond.fieldLinkNest RX4 165 "AreaGoals$Sea" "kindTotals" "[J" "AreaGoals", Cond.fieldLinkNest RX3 104 "AreaGoals$Sea" "portTotals" "[J" "AreaGoals", Cond.fieldLinkNest RX4 197 "AreaGoals$Sea" "portTotals" "[J" "AreaGoals", Cond.fieldLinkNest RX4 93 "AreaGoals$Sea" "goalAbove" "[J" "AreaGoals", Cond.fieldLinkNest RX3 98 "AreaGoals$Sea" "goalAbove" "[J" "AreaGoals", Cond.fieldLinkNest RX4 96 "AreaGoals$Sea" "goalBelow" "[J" "AreaGoals", Cond.fieldLinkNest RX3 92 "AreaGoals$Sea" "goalBelow" "[J" "AreaGoals", Cond.fieldLinkNest RX3 107 "AreaGoals$Sea" "fairAbove" "J" "AreaGoals", Cond.fieldLinkNest RX4 200 "AreaGoals$Sea" "fairAbove" "J" "AreaGoals", Cond.fieldLinkNest RX3 101 "AreaGoals$Sea" "fairBelow" "J" "AreaGoals", Cond.fieldLinkNest RX4 203 "AreaGoals$Sea" "fairBelow" "J" "AreaGoals", Cond.fieldLinkNest RX3 69 "AreaGoals$Sea" "borderWeight" "J" "AreaGoals", Cond.fieldLinkNest RX4 106 "AreaGoals$Sea" "borderWeight" "J" "AreaGoals", Cond.fieldLinkNest RX4 60 "AreaGoals$Sea" "cells" "I" "AreaGoals", Cond.fieldLinkNest RX3 36 "AreaGoals$Sea" "cells" "I" "AreaGoals", Cond.fieldLinkNest RX3 72 "AreaGoals$Sea" "needed" "I" "AreaGoals", Cond.fieldLinkNest RX4 109 "AreaGoals$Sea" "needed" "I" "AreaGoals", Cond.fieldLinkNest RX3 75 "AreaGoals$Sea" "barred" "I" "AreaGoals", Cond.fieldLinkNest RX4 112 "AreaGoals$Sea" "barred" "I" "AreaGoals", Cond.fieldLinkNest RX3 78 "AreaGoals$Sea" "fewest" "I" "AreaGoals", Cond.fieldLinkNest RX4 209 "AreaGoals$Sea" "fewest" "I" "AreaGoals", Cond.fieldLinkNest RX4 164 "AreaGoals$Tally" "amounts" "[J" "AreaGoals", Cond.fieldLinkNest RX4 194 "AreaGoals$Tally" "hours" "[J" "AreaGoals", Cond.fieldLinkNest RX4 180 "AreaGoals$Tally" "cells" "I" "AreaGoals", Cond.fieldLinkNest RX4 206 "AreaGoals$Tally" "borderLength" "J" "AreaGoals", Cond.fieldLinkNest RX4 115 "AreaGoals$Choice" "there" "Z" "AreaGoals", Cond.fieldLinkNest RX4 119 "AreaGoals$Choice" "cells" "I" "AreaGoals", Cond.fieldLinkNest RX4 157 "AreaGoals$Choice" "price" "J" "AreaGoals"]
theorem nM_X4_9 : Cond.methodLinkNest RX4 9 yX2_init "AreaGoals" ∈ nwL := List.mem_of_getElem? (i := 0) rfl
theorem nM_X4_18 : Cond.methodLinkNest RX4 18 yX3_init "AreaGoals" ∈ nwL := List.mem_of_getElem? (i := 1) rfl
theorem nM_X4_27 : Cond.methodLinkNest RX4 27 yX1_init "AreaGoals" ∈ nwL := List.mem_of_getElem? (i := 2) rfl
theorem nM_X4_32 : Cond.methodLinkNest RX4 32 yX1_start "AreaGoals" ∈ nwL := List.mem_of_getElem? (i := 3) rfl
theorem nM_X4_41 : Cond.methodLinkNest RX4 41 yX0_init "AreaGoals" ∈ nwL := List.mem_of_getElem? (i := 4) rfl
theorem nM_X4_73 : Cond.methodLinkNest RX4 73 yX2_hasCell "AreaGoals" ∈ nwL := List.mem_of_getElem? (i := 5) rfl
theorem nM_X4_86 : Cond.methodLinkNest RX4 86 yX2_putAmount "AreaGoals" ∈ nwL := List.mem_of_getElem? (i := 6) rfl
theorem nM_X4_99 : Cond.methodLinkNest RX4 99 yX2_hasPair "AreaGoals" ∈ nwL := List.mem_of_getElem? (i := 7) rfl
theorem nM_X4_229 : Cond.methodLinkNest RX4 229 yX2_openSet "AreaGoals" ∈ nwL := List.mem_of_getElem? (i := 8) rfl
theorem nM_X4_160 : Cond.methodLinkNest RX4 160 yX3_begin "AreaGoals" ∈ nwL := List.mem_of_getElem? (i := 9) rfl
theorem nM_X3_39 : Cond.methodLinkNest RX3 39 yX4_hasBit "AreaGoals" ∈ nwL := List.mem_of_getElem? (i := 10) rfl
theorem nM_X4_232 : Cond.methodLinkNest RX4 232 yX3_meetsGoal "AreaGoals" ∈ nwL := List.mem_of_getElem? (i := 11) rfl
theorem nM_X4_136 : Cond.methodLinkNest RX4 136 yX0_clear "AreaGoals" ∈ nwL := List.mem_of_getElem? (i := 12) rfl
theorem nM_X4_139 : Cond.methodLinkNest RX4 139 yX2_freeSet "AreaGoals" ∈ nwL := List.mem_of_getElem? (i := 13) rfl
theorem nM_X4_150 : Cond.methodLinkNest RX4 150 yX2_costsOf "AreaGoals" ∈ nwL := List.mem_of_getElem? (i := 14) rfl
theorem nM_X2_65 : Cond.methodLinkNest RX2 65 yX4_hasBit "AreaGoals" ∈ nwL := List.mem_of_getElem? (i := 15) rfl
theorem nM_X4_181 : Cond.methodLinkNest RX4 181 yX3_price "AreaGoals" ∈ nwL := List.mem_of_getElem? (i := 16) rfl
theorem nM_X4_244 : Cond.methodLinkNest RX4 244 yX0_isBeatenBy "AreaGoals" ∈ nwL := List.mem_of_getElem? (i := 17) rfl
theorem nM_X4_248 : Cond.methodLinkNest RX4 248 yX3_stands "AreaGoals" ∈ nwL := List.mem_of_getElem? (i := 18) rfl
theorem nM_X4_184 : Cond.methodLinkNest RX4 184 yX0_take "AreaGoals" ∈ nwL := List.mem_of_getElem? (i := 19) rfl
theorem nM_X4_241 : Cond.methodLinkNest RX4 241 yX3_exchange "AreaGoals" ∈ nwL := List.mem_of_getElem? (i := 20) rfl
theorem nM_X4_252 : Cond.methodLinkNest RX4 252 yX1_next "AreaGoals" ∈ nwL := List.mem_of_getElem? (i := 21) rfl
theorem nM_X4_191 : Cond.methodLinkNest RX4 191 yX2_putHours "AreaGoals" ∈ nwL := List.mem_of_getElem? (i := 22) rfl
theorem nM_X4_212 : Cond.methodLinkNest RX4 212 yX2_comesBefore "AreaGoals" ∈ nwL := List.mem_of_getElem? (i := 23) rfl
theorem nF_X4_69 : Cond.fieldLinkNest RX4 69 "AreaGoals$Sea" "costs" "[J" "AreaGoals" ∈ nwL := List.mem_of_getElem? (i := 24) rfl
theorem nF_X3_57 : Cond.fieldLinkNest RX3 57 "AreaGoals$Sea" "costs" "[J" "AreaGoals" ∈ nwL := List.mem_of_getElem? (i := 25) rfl
theorem nF_X3_64 : Cond.fieldLinkNest RX3 64 "AreaGoals$Sea" "amounts" "[J" "AreaGoals" ∈ nwL := List.mem_of_getElem? (i := 26) rfl
theorem nF_X4_123 : Cond.fieldLinkNest RX4 123 "AreaGoals$Sea" "amounts" "[J" "AreaGoals" ∈ nwL := List.mem_of_getElem? (i := 27) rfl
theorem nF_X3_65 : Cond.fieldLinkNest RX3 65 "AreaGoals$Sea" "hours" "[J" "AreaGoals" ∈ nwL := List.mem_of_getElem? (i := 28) rfl
theorem nF_X3_66 : Cond.fieldLinkNest RX3 66 "AreaGoals$Sea" "borders" "[J" "AreaGoals" ∈ nwL := List.mem_of_getElem? (i := 29) rfl
theorem nF_X4_103 : Cond.fieldLinkNest RX4 103 "AreaGoals$Sea" "borders" "[J" "AreaGoals" ∈ nwL := List.mem_of_getElem? (i := 30) rfl
theorem nF_X3_47 : Cond.fieldLinkNest RX3 47 "AreaGoals$Sea" "tooFar" "[I" "AreaGoals" ∈ nwL := List.mem_of_getElem? (i := 31) rfl
theorem nF_X4_217 : Cond.fieldLinkNest RX4 217 "AreaGoals$Sea" "tooFar" "[I" "AreaGoals" ∈ nwL := List.mem_of_getElem? (i := 32) rfl
theorem nF_X3_95 : Cond.fieldLinkNest RX3 95 "AreaGoals$Sea" "kindTotals" "[J" "AreaGoals" ∈ nwL := List.mem_of_getElem? (i := 33) rfl
theorem nF_X4_165 : Cond.fieldLinkNest RX4 165 "AreaGoals$Sea" "kindTotals" "[J" "AreaGoals" ∈ nwL := List.mem_of_getElem? (i := 34) rfl
theorem nF_X3_104 : Cond.fieldLinkNest RX3 104 "AreaGoals$Sea" "portTotals" "[J" "AreaGoals" ∈ nwL := List.mem_of_getElem? (i := 35) rfl
theorem nF_X4_197 : Cond.fieldLinkNest RX4 197 "AreaGoals$Sea" "portTotals" "[J" "AreaGoals" ∈ nwL := List.mem_of_getElem? (i := 36) rfl
theorem nF_X4_93 : Cond.fieldLinkNest RX4 93 "AreaGoals$Sea" "goalAbove" "[J" "AreaGoals" ∈ nwL := List.mem_of_getElem? (i := 37) rfl
theorem nF_X3_98 : Cond.fieldLinkNest RX3 98 "AreaGoals$Sea" "goalAbove" "[J" "AreaGoals" ∈ nwL := List.mem_of_getElem? (i := 38) rfl
theorem nF_X4_96 : Cond.fieldLinkNest RX4 96 "AreaGoals$Sea" "goalBelow" "[J" "AreaGoals" ∈ nwL := List.mem_of_getElem? (i := 39) rfl
theorem nF_X3_92 : Cond.fieldLinkNest RX3 92 "AreaGoals$Sea" "goalBelow" "[J" "AreaGoals" ∈ nwL := List.mem_of_getElem? (i := 40) rfl
theorem nF_X3_107 : Cond.fieldLinkNest RX3 107 "AreaGoals$Sea" "fairAbove" "J" "AreaGoals" ∈ nwL := List.mem_of_getElem? (i := 41) rfl
theorem nF_X4_200 : Cond.fieldLinkNest RX4 200 "AreaGoals$Sea" "fairAbove" "J" "AreaGoals" ∈ nwL := List.mem_of_getElem? (i := 42) rfl
theorem nF_X3_101 : Cond.fieldLinkNest RX3 101 "AreaGoals$Sea" "fairBelow" "J" "AreaGoals" ∈ nwL := List.mem_of_getElem? (i := 43) rfl
theorem nF_X4_203 : Cond.fieldLinkNest RX4 203 "AreaGoals$Sea" "fairBelow" "J" "AreaGoals" ∈ nwL := List.mem_of_getElem? (i := 44) rfl
theorem nF_X3_69 : Cond.fieldLinkNest RX3 69 "AreaGoals$Sea" "borderWeight" "J" "AreaGoals" ∈ nwL := List.mem_of_getElem? (i := 45) rfl
theorem nF_X4_106 : Cond.fieldLinkNest RX4 106 "AreaGoals$Sea" "borderWeight" "J" "AreaGoals" ∈ nwL := List.mem_of_getElem? (i := 46) rfl
theorem nF_X4_60 : Cond.fieldLinkNest RX4 60 "AreaGoals$Sea" "cells" "I" "AreaGoals" ∈ nwL := List.mem_of_getElem? (i := 47) rfl
theorem nF_X3_36 : Cond.fieldLinkNest RX3 36 "AreaGoals$Sea" "cells" "I" "AreaGoals" ∈ nwL := List.mem_of_getElem? (i := 48) rfl
theorem nF_X3_72 : Cond.fieldLinkNest RX3 72 "AreaGoals$Sea" "needed" "I" "AreaGoals" ∈ nwL := List.mem_of_getElem? (i := 49) rfl
theorem nF_X4_109 : Cond.fieldLinkNest RX4 109 "AreaGoals$Sea" "needed" "I" "AreaGoals" ∈ nwL := List.mem_of_getElem? (i := 50) rfl
theorem nF_X3_75 : Cond.fieldLinkNest RX3 75 "AreaGoals$Sea" "barred" "I" "AreaGoals" ∈ nwL := List.mem_of_getElem? (i := 51) rfl
theorem nF_X4_112 : Cond.fieldLinkNest RX4 112 "AreaGoals$Sea" "barred" "I" "AreaGoals" ∈ nwL := List.mem_of_getElem? (i := 52) rfl
theorem nF_X3_78 : Cond.fieldLinkNest RX3 78 "AreaGoals$Sea" "fewest" "I" "AreaGoals" ∈ nwL := List.mem_of_getElem? (i := 53) rfl
theorem nF_X4_209 : Cond.fieldLinkNest RX4 209 "AreaGoals$Sea" "fewest" "I" "AreaGoals" ∈ nwL := List.mem_of_getElem? (i := 54) rfl
theorem nF_X4_164 : Cond.fieldLinkNest RX4 164 "AreaGoals$Tally" "amounts" "[J" "AreaGoals" ∈ nwL := List.mem_of_getElem? (i := 55) rfl
theorem nF_X4_194 : Cond.fieldLinkNest RX4 194 "AreaGoals$Tally" "hours" "[J" "AreaGoals" ∈ nwL := List.mem_of_getElem? (i := 56) rfl
theorem nF_X4_180 : Cond.fieldLinkNest RX4 180 "AreaGoals$Tally" "cells" "I" "AreaGoals" ∈ nwL := List.mem_of_getElem? (i := 57) rfl
theorem nF_X4_206 : Cond.fieldLinkNest RX4 206 "AreaGoals$Tally" "borderLength" "J" "AreaGoals" ∈ nwL := List.mem_of_getElem? (i := 58) rfl
theorem nF_X4_115 : Cond.fieldLinkNest RX4 115 "AreaGoals$Choice" "there" "Z" "AreaGoals" ∈ nwL := List.mem_of_getElem? (i := 59) rfl
theorem nF_X4_119 : Cond.fieldLinkNest RX4 119 "AreaGoals$Choice" "cells" "I" "AreaGoals" ∈ nwL := List.mem_of_getElem? (i := 60) rfl
theorem nF_X4_157 : Cond.fieldLinkNest RX4 157 "AreaGoals$Choice" "price" "J" "AreaGoals" ∈ nwL := List.mem_of_getElem? (i := 61) rfl
end
section
/-! The frame that all contracts of this claim share: one word list, the nest words as a predicate of the state, two kinds of contract (a read: the heap stays; a write: the world becomes another), branches in one form. -/
theorem U_good : GoodIn wsL_law wsL_law := goodIn_sub (fun _ h => h) (by decide +kernel)
theorem gdC {w : Cond} (h : w ∈ wsL_law) : GoodIn wsL_law (w :: wsL_law) := fun v hv => by
  rcases List.mem_cons.mp hv with rfl | h2
  · exact U_good _ h
  · exact U_good _ h2
def isNest : Cond → Bool
  | .fieldLinkNest .. => true
  | .methodLinkNest .. => true
  | _ => false
def nwA (U : State) : Prop := ∀ w ∈ nwL, va_Nw w U
theorem nwL_nest : nwL.all isNest = true := by decide +kernel
theorem nwL_tab : nwL.all Cond.onTables = true := by decide +kernel
theorem nwA.warm {s U : State} (hW : s.WarmedH U.vm) (h : nwA s) : nwA U := by
  intro w hw
  have hn := List.all_eq_true.mp nwL_nest w hw
  have hz := h w hw
  cases w <;> first | exact va_Nw.warmF hW hz | exact va_Nw.warmM hW hz | (simp [isNest] at hn)
theorem nwA.calling {U : State} {g : JFrame} {mk : MethodId} {a : Array Value} (h : nwA U) : nwA (U.calling g mk a) := fun w hw => va_Nw.same (List.all_eq_true.mp nwL_tab w hw) (u := U) rfl (h w hw)
abbrev KT : Type := va_G × ClassId × ClassId × ClassId
abbrev tyA (k : KT) : List (ClassId × FieldType) := [(k.2.1, .int), (k.2.2.1, .long), (k.2.2.2, .boolean)]
def KK (k : KT) (U : State) : Prop := va_K k.1 vwCl (tyA k) U ∧ nwA U
theorem KK.warm {k : KT} {s U : State} (hW : s.WarmedH U.vm) (h : KK k s) : KK k U := ⟨va_K.moved hW.alike h.1, h.2.warm hW⟩
theorem KK.calling {k : KT} {U : State} {g : JFrame} {mk : MethodId} {a : Array Value} (h : KK k U) : KK k (U.calling g mk a) := ⟨va_K.moved (u := U) (U := U.calling g mk a) (Vm.Alike.refl U.vm) h.1, h.2.calling⟩
theorem KK.nf {k : KT} {s : State} {args : Array Value} (h : KK k s) {w : Cond} (hw : w ∈ nwL) : w.before args s = true := va_Nw.use (List.all_eq_true.mp nwL_tab w hw) (h.2 w hw)
abbrev rz (f n : Nat) : Room := { frames := f, cells := 0, slots := 0, locals := n }
def rQ (v : Value) : Array Value → State → Outcome → State → Prop := fun _ st o t => o = .returned (some v) ∧ t.heap = st.heap
def rB (k : KT) (ws : va_W) : State → Prop := fun U => va_P k.1 vwCl ws U.heap ∧ KK k U
/-- a READ: the heap stays, the answer is v -/
abbrev MR (l : Launch) (y : MethodName) (cc : ByteArray) (nL : Nat) (ret : Option FieldType) (rm : Room) (k : KT) (av : List Value) (ws : va_W) (v : Value) : Prop :=
  Met l y (Cond.code y cc nL ret :: wsL_law) rm (va_Pc av (rB k ws)) (rQ v) 0 0 (fun _ => False)
abbrev WR (p : Program) (l : Launch) (e : Env) (s : State) (m : MethodId) (below : List Frame) (meth : Method) (c : Code) (y : MethodName) (cc : ByteArray) (nL : Nat) (ret : Option FieldType) (rm : Room) (av : List Value) (v : Value) (g : JFrame) : Prop :=
  W p l e (headSpec (Cond.code y cc nL ret :: wsL_law) rm).room s m av.toArray below meth c s.heap [] 0 0 (MQ below (rQ v) av.toArray s 0 0 (fun _ => False)) g
theorem rB.blind {k : KT} {av : List Value} {ws : va_W} : FrameBlind (va_Pc av (rB k ws)) := fun _ _ _ _ q => ⟨q.1, q.2.1, q.2.2.calling⟩
theorem rB.at {k : KT} {av : List Value} {ws : va_W} {s : State} {H : Heap} (hP : va_P k.1 vwCl ws H) (hK : KK k s) : ∀ U : State, U.heap = H → s.WarmedH U.vm → va_Pc av (rB k ws) av.toArray U := fun U hU hW => ⟨rfl, by rw [hU]; exact hP, hK.warm hW⟩
/-- a WRITE: the world ws becomes ws', the answer is v -/
def wB (k : KT) (ws : va_W) (sz : Nat) : State → Prop := fun U => U.heap.size = sz ∧ va_P k.1 vwCl ws U.heap ∧ KK k U ∧ va_D (fun _ => True) ws
def wQ (v : Option Value) (k : KT) (ws' : va_W) (A : Nat → Prop) : Array Value → State → Outcome → State → Prop := fun _ st o t => (o = .returned v ∧ va_P k.1 vwCl ws' t.heap ∧ va_D A ws') ∧ va_F A st t
abbrev MW (l : Launch) (y : MethodName) (cc : ByteArray) (nL : Nat) (ret : Option FieldType) (rm : Room) (k : KT) (av : List Value) (ws : va_W) (v : Option Value) (ws' : va_W) : Prop :=
  ∀ sz : Nat, Met l y (Cond.code y cc nL ret :: wsL_law) rm (va_Pc av (wB k ws sz)) (wQ v k ws' (va_A ws sz)) 0 0 (va_A ws sz)
abbrev WW (p : Program) (l : Launch) (e : Env) (s : State) (m : MethodId) (below : List Frame) (meth : Method) (c : Code) (y : MethodName) (cc : ByteArray) (nL : Nat) (ret : Option FieldType) (rm : Room) (av : List Value) (v : Option Value) (k : KT) (ws' : va_W) (A : Nat → Prop) (H : Heap) (locs : List Loc) (g : JFrame) : Prop :=
  W p l e (headSpec (Cond.code y cc nL ret :: wsL_law) rm).room s m av.toArray below meth c H locs 0 0 (MQ below (wQ v k ws' A) av.toArray s 0 0 A) g
theorem wB.blind {k : KT} {av : List Value} {ws : va_W} {sz : Nat} : FrameBlind (va_Pc av (wB k ws sz)) := fun _ _ _ _ q => ⟨q.1, q.2.1, q.2.2.1, q.2.2.2.1.calling, q.2.2.2.2⟩
theorem wB.at {k : KT} {av : List Value} {ws : va_W} {A : Nat → Prop} {s : State} {H : Heap} (hP : va_P k.1 vwCl ws H) (hK : KK k s) (hD : va_D A ws) : ∀ U : State, U.heap = H → s.WarmedH U.vm → va_Pc av (wB k ws H.size) av.toArray U := fun U hU hW => ⟨rfl, by rw [hU], by rw [hU]; exact hP, hK.warm hW, hD.weaken (fun _ _ _ _ => trivial)⟩
section FR
variable {p : Program} {l : Launch} {e : Env} {R : Room} {s : State} {m : MethodId} {args : Array Value} {below : List Frame} {meth : Method} {c : Code} {H : Heap} {locs : List Loc} {cells slots : Nat} {Q : State → Prop}
theorem W.callRd {v : Value} {a : Array Value} {g : JFrame} {rest : List Value} (hr : va_Run p l e R s m args below meth c H locs cells slots 0 0 g rest (rQ v a) (fun _ => False))
    (kk : W p l e R s m args below meth c H locs cells slots Q { g with pc := g.pc + 3, stack := v :: rest }) : W p l e R s m args below meth c H locs cells slots Q g := by
  intro T hT X
  obtain ⟨v', st₀, t, T', L, h0, X', hL, e1, e2, ⟨hv, hh⟩, st⟩ := hr T hT X
  cases hv
  obtain ⟨t2, a1, b1⟩ := kk T' (by rw [e1, hh, h0]) (Stand.forget X' (fun q h => (hL q h).elim))
  exact ⟨t2, st t2 a1, b1⟩
theorem W.callWr {v : Option Value} {k : KT} {ws' : va_W} {A0 A1 : Nat → Prop} {H0 : Heap} {mc ms : Nat} {free : Addr → Prop} {a : Array Value} {g : JFrame} {rest : List Value} (hr : va_Run p l e R s m args below meth c H locs cells slots mc ms g rest (wQ v k ws' A1 a) free) (hS : va_S A0 H0 H locs) (hA : ∀ q, q < H.size → A1 q → A0 q) (hf : ∀ q, free q → A0 q)
    (kk : ∀ (H1 : Heap) (locs1 : List Loc), va_P k.1 vwCl ws' H1 → va_D A1 ws' → (∀ q : Nat, q < H.size → ¬ A1 q → H1[q]? = H[q]?) → va_S A0 H0 H1 locs1 → W p l e R s m args below meth c H1 locs1 (cells + mc) (slots + ms) Q { g with pc := g.pc + 3, stack := v.toList ++ rest }) : W p l e R s m args below meth c H locs cells slots Q g := by
  intro T hT X
  obtain ⟨v', st₀, t, T', L, h0, X', hL, e1, e2, ⟨⟨hv, hP, hD⟩, hz, hk⟩, st⟩ := hr T hT X
  cases hv
  rw [h0] at hz hk
  obtain ⟨t2, a1, b1⟩ := kk T'.heap (locs ++ L) (by rw [e1]; exact hP) hD (fun q h1 h2 => by rw [e1]; exact hk q h1 h2)
    ⟨by rw [e1]; exact Nat.le_trans hS.1 hz, fun q h1 h2 => by
      rw [e1]
      by_cases hq : A1 q
      · exact absurd (hA q (Nat.lt_of_lt_of_le h1 hS.1) hq) h2
      · rw [hk q (Nat.lt_of_lt_of_le h1 hS.1) hq]; exact hS.2.1 q h1 h2, fun q hq => by
      rcases List.mem_append.mp hq with h | h
      · exact hS.2.2 q h
      · exact hf _ (hL q h)⟩ T' rfl X'
  exact ⟨t2, st t2 a1, b1⟩
variable {y : MethodName} {bytes cc : ByteArray} {maxL nL n index fr lo pc : Nat} {ret : Option FieldType} {own C host : String} {b : Addr} {As rest st : List Value} {ls : Array Slot} {k : KT} {ws ws' : va_W} {v : Value} {vo : Option Value} {A : Nat → Prop} {H0 : Heap}
/-- what a caller knows of its own frame -/
abbrev CF (p : Program) (m : MethodId) (c : Code) (cc : ByteArray) (nL : Nat) (s : State) (args : Array Value) (own : String) : Prop := CallFix p m c cc nL s args wsL_law own
abbrev DN (y : MethodName) (n : Nat) : Prop := y.cls ≠ "java/lang/invoke/MethodHandle" ∧ y.cls ≠ "java/lang/invoke/VarHandle" ∧ (parseMethodDescriptor y.desc).map (fun d => d.parameters.length) = some n
abbrev RM (R : Room) (fr lo maxL : Nat) : Prop := fr + 1 ≤ R.frames ∧ 8 + (maxL + 11) + lo ≤ R.locals
theorem cB (S : CF p m c cc nL s args own) (hcode : Cond.code y bytes maxL ret ∈ wsL_law) (hini : Cond.initialized y.cls ∈ wsL_law) (hl : Cond.methodLink own index y ∈ wsL_law) (hd : DN y n) (hR : RM R fr lo maxL) : CallB R s args own index y bytes maxL ret (Cond.code y bytes maxL ret :: wsL_law) (rz fr lo) 0 0 n :=
  callB_of n S.2.2.2.2 (gdC hcode) rfl rfl rfl (S.2.2.2.2 _ hini) (S.2.2.2.2 _ hl) hd hR
theorem cN (S : CF p m c cc nL s args own) (hK : KK k s) (hcode : Cond.code y bytes maxL ret ∈ wsL_law) (hini : Cond.initialized y.cls ∈ wsL_law) (hl : Cond.methodLinkNest own index y host ∈ nwL) (hd : DN y n) (hR : RM R fr lo maxL) : va_CN R s args own index y host bytes maxL ret (Cond.code y bytes maxL ret :: wsL_law) (rz fr lo) 0 0 n :=
  va_cnB n S.2.2.2.2 (gdC hcode) rfl rfl rfl (hK.2 _ hl) (S.2.2.2.2 _ hini) hd hR
/-- reads: a static of the own class or the JDK's; of a nest mate; an instance method of the own class; of a nest mate -/
theorem rcS (S : CF p m c cc nL s args own) (hM : MR l y bytes maxL ret (rz fr lo) k As ws v) (hP : va_P k.1 vwCl ws H) (hK : KK k s) (hcode : Cond.code y bytes maxL ret ∈ wsL_law) (hini : Cond.initialized y.cls ∈ wsL_law) (hl : Cond.methodLink own index y ∈ wsL_law) (hs : Cond.static y ∈ wsL_law) (hd : DN y n) (hn : As.length = n) (hR : RM R fr lo maxL) (hf : cells ≤ R.cells ∧ slots ≤ R.slots) (hsz : ls.size = nL) (hst : st = As.reverse ++ rest) (hW : (rest.map fun v => v.category).sum ≤ 8) (hdg : decode cc pc = .ok (.invokestatic index, 3))
    (kk : W p l e R s m args below meth c H locs cells slots Q (F0 m (pc + 3) ls (v :: rest))) : W p l e R s m args below meth c H locs cells slots Q (F0 m pc ls st) :=
  W.callRd (va_runS S hM ⟨cB S hcode hini hl hd hR, S.2.2.2.2 _ hs⟩ ⟨rB.blind, rB.at hP hK⟩ rfl hn hsz hst (lv_room hW) hdg hf) kk
theorem rcSN (S : CF p m c cc nL s args own) (hM : MR l y bytes maxL ret (rz fr lo) k As ws v) (hP : va_P k.1 vwCl ws H) (hK : KK k s) (hcode : Cond.code y bytes maxL ret ∈ wsL_law) (hini : Cond.initialized y.cls ∈ wsL_law) (hl : Cond.methodLinkNest own index y host ∈ nwL) (hs : Cond.static y ∈ wsL_law) (hd : DN y n) (hn : As.length = n) (hR : RM R fr lo maxL) (hf : cells ≤ R.cells ∧ slots ≤ R.slots) (hsz : ls.size = nL) (hst : st = As.reverse ++ rest) (hW : (rest.map fun v => v.category).sum ≤ 8) (hdg : decode cc pc = .ok (.invokestatic index, 3))
    (kk : W p l e R s m args below meth c H locs cells slots Q (F0 m (pc + 3) ls (v :: rest))) : W p l e R s m args below meth c H locs cells slots Q (F0 m pc ls st) :=
  W.callRd (va_runSN S hM ⟨cN S hK hcode hini hl hd hR, S.2.2.2.2 _ hs, trivial⟩ ⟨rB.blind, rB.at hP hK⟩ rfl hn hsz hst (lv_room hW) hdg hf) kk
theorem rcV (S : CF p m c cc nL s args own) (hM : MR l y bytes maxL ret (rz fr lo) k (.ref b :: As) ws v) (hP : va_P k.1 vwCl ws H) (hK : KK k s) (q0 : Nat) {ci : Nat} {q : vw_C} {fs : List Value} (hc : vwCl[ci]? = some q) (he : ws[q0]? = some (b, .inr (ci, fs))) (hy : q.1 = C) (hcode : Cond.code y bytes maxL ret ∈ wsL_law) (hini : Cond.initialized y.cls ∈ wsL_law) (hl : Cond.methodLink own index y ∈ wsL_law) (hi : Cond.instanceMethod y ∈ wsL_law) (hse : Cond.selects C y y ∈ wsL_law) (hd : DN y n) (hn : As.length = n) (hR : RM R fr lo maxL) (hf : cells ≤ R.cells ∧ slots ≤ R.slots) (hsz : ls.size = nL) (hst : st = As.reverse ++ .ref b :: rest) (hW : (rest.map fun v => v.category).sum ≤ 8) (hdg : decode cc pc = .ok (.invokevirtual index, 3))
    (kk : W p l e R s m args below meth c H locs cells slots Q (F0 m (pc + 3) ls (v :: rest))) : W p l e R s m args below meth c H locs cells slots Q (F0 m pc ls st) :=
  W.callRd (va_runV S hM ⟨cB S hcode hini hl hd hR, S.2.2.2.2 _ hi, S.2.2.2.2 _ hse⟩ ⟨rB.blind, hy ▸ va_recv hK.1 hP hc he, rB.at hP hK⟩ rfl hn hsz hst (lv_room hW) hdg hf) kk
theorem rcVN (S : CF p m c cc nL s args own) (hM : MR l y bytes maxL ret (rz fr lo) k (.ref b :: As) ws v) (hP : va_P k.1 vwCl ws H) (hK : KK k s) (q0 : Nat) {ci : Nat} {q : vw_C} {fs : List Value} (hc : vwCl[ci]? = some q) (he : ws[q0]? = some (b, .inr (ci, fs))) (hy : q.1 = C) (hcode : Cond.code y bytes maxL ret ∈ wsL_law) (hini : Cond.initialized y.cls ∈ wsL_law) (hl : Cond.methodLinkNest own index y host ∈ nwL) (hi : Cond.instanceMethod y ∈ wsL_law) (hse : Cond.selects C y y ∈ wsL_law) (hd : DN y n) (hn : As.length = n) (hR : RM R fr lo maxL) (hf : cells ≤ R.cells ∧ slots ≤ R.slots) (hsz : ls.size = nL) (hst : st = As.reverse ++ .ref b :: rest) (hW : (rest.map fun v => v.category).sum ≤ 8) (hdg : decode cc pc = .ok (.invokevirtual index, 3))
    (kk : W p l e R s m args below meth c H locs cells slots Q (F0 m (pc + 3) ls (v :: rest))) : W p l e R s m args below meth c H locs cells slots Q (F0 m pc ls st) :=
  W.callRd (va_runVN S hM ⟨cN S hK hcode hini hl hd hR, S.2.2.2.2 _ hi, S.2.2.2.2 _ hse⟩ ⟨rB.blind, hy ▸ va_recv hK.1 hP hc he, rB.at hP hK⟩ rfl hn hsz hst (lv_room hW) hdg hf) kk
theorem fA (hD : va_D A ws) (hS : va_S A H0 H locs) (hA : ∀ q, H0.size ≤ q → A q) : ∀ q, va_A ws H.size q → A q := by
  intro q h
  rcases h with ⟨k, e, h⟩ | h
  · exact hD.2 k _ h
  · exact hA q (Nat.le_trans hS.1 h)
/-- writes over the whole world of the caller: an instance method of the own class; of a nest mate -/
theorem wcV (S : CF p m c cc nL s args own) (hM : MW l y bytes maxL ret (rz fr lo) k (.ref b :: As) ws vo ws') (hP : va_P k.1 vwCl ws H) (hD : va_D A ws) (hS : va_S A H0 H locs) (hA : ∀ q, H0.size ≤ q → A q) (hK : KK k s) (q0 : Nat) {ci : Nat} {q : vw_C} {fs : List Value} (hc : vwCl[ci]? = some q) (he : ws[q0]? = some (b, .inr (ci, fs))) (hy : q.1 = C) (hcode : Cond.code y bytes maxL ret ∈ wsL_law) (hini : Cond.initialized y.cls ∈ wsL_law) (hl : Cond.methodLink own index y ∈ wsL_law) (hi : Cond.instanceMethod y ∈ wsL_law) (hse : Cond.selects C y y ∈ wsL_law) (hd : DN y n) (hn : As.length = n) (hR : RM R fr lo maxL) (hf : cells ≤ R.cells ∧ slots ≤ R.slots) (hsz : ls.size = nL) (hst : st = As.reverse ++ .ref b :: rest) (hW : (rest.map fun v => v.category).sum ≤ 8) (hdg : decode cc pc = .ok (.invokevirtual index, 3))
    (kk : ∀ (H1 : Heap) (locs1 : List Loc), va_P k.1 vwCl ws' H1 → va_D A ws' → va_S A H0 H1 locs1 → W p l e R s m args below meth c H1 locs1 cells slots Q (F0 m (pc + 3) ls (vo.toList ++ rest))) : W p l e R s m args below meth c H locs cells slots Q (F0 m pc ls st) :=
  W.callWr (va_runV S (hM H.size) ⟨cB S hcode hini hl hd hR, S.2.2.2.2 _ hi, S.2.2.2.2 _ hse⟩ ⟨wB.blind, hy ▸ va_recv hK.1 hP hc he, wB.at hP hK hD⟩ rfl hn hsz hst (lv_room hW) hdg hf) hS (fun q _ h => fA hD hS hA q h) (fA hD hS hA) (fun H1 locs1 h1 h2 _ h4 => kk H1 locs1 h1 (h2.weaken (fun _ q _ h => fA hD hS hA q.1 h)) h4)
theorem wcVN (S : CF p m c cc nL s args own) (hM : MW l y bytes maxL ret (rz fr lo) k (.ref b :: As) ws vo ws') (hP : va_P k.1 vwCl ws H) (hD : va_D A ws) (hS : va_S A H0 H locs) (hA : ∀ q, H0.size ≤ q → A q) (hK : KK k s) (q0 : Nat) {ci : Nat} {q : vw_C} {fs : List Value} (hc : vwCl[ci]? = some q) (he : ws[q0]? = some (b, .inr (ci, fs))) (hy : q.1 = C) (hcode : Cond.code y bytes maxL ret ∈ wsL_law) (hini : Cond.initialized y.cls ∈ wsL_law) (hl : Cond.methodLinkNest own index y host ∈ nwL) (hi : Cond.instanceMethod y ∈ wsL_law) (hse : Cond.selects C y y ∈ wsL_law) (hd : DN y n) (hn : As.length = n) (hR : RM R fr lo maxL) (hf : cells ≤ R.cells ∧ slots ≤ R.slots) (hsz : ls.size = nL) (hst : st = As.reverse ++ .ref b :: rest) (hW : (rest.map fun v => v.category).sum ≤ 8) (hdg : decode cc pc = .ok (.invokevirtual index, 3))
    (kk : ∀ (H1 : Heap) (locs1 : List Loc), va_P k.1 vwCl ws' H1 → va_D A ws' → va_S A H0 H1 locs1 → W p l e R s m args below meth c H1 locs1 cells slots Q (F0 m (pc + 3) ls (vo.toList ++ rest))) : W p l e R s m args below meth c H locs cells slots Q (F0 m pc ls st) :=
  W.callWr (va_runVN S (hM H.size) ⟨cN S hK hcode hini hl hd hR, S.2.2.2.2 _ hi, S.2.2.2.2 _ hse⟩ ⟨wB.blind, hy ▸ va_recv hK.1 hP hc he, wB.at hP hK hD⟩ rfl hn hsz hst (lv_room hW) hdg hf) hS (fun q _ h => fA hD hS hA q h) (fA hD hS hA) (fun H1 locs1 h1 h2 _ h4 => kk H1 locs1 h1 (h2.weaken (fun _ q _ h => fA hD hS hA q.1 h)) h4)
/-- a write of a nest mate over a part wc of the caller's world: isC its places, isR the others; behind it the world stands in the caller's order again, wn -/
theorem wcP (S : CF p m c cc nL s args own) {wc wr wc' wn : va_W} (hM : MW l y bytes maxL ret (rz fr lo) k (.ref b :: As) wc vo wc') (hP : va_P k.1 vwCl ws H) (hD : va_D A ws) (hS : va_S A H0 H locs) (hA : ∀ q, H0.size ≤ q → A q) (hK : KK k s) (isC isR isN : List Nat) (hC : isC.map (fun i => ws[i]?) = wc.map some) (hRr : isR.map (fun i => ws[i]?) = wr.map some) (hnd : va_nd isR = true) (hndC : va_nd isC = true) (hdis : ∀ i ∈ isR, i ∉ isC) (hPn : isN.filterMap (fun i => (wr ++ wc')[i]?) = wn) (hDn : isN.map (fun i => (wr ++ wc')[i]?) = wn.map some) (hndN : va_nd isN = true) (q0 : Nat) {ci : Nat} {q : vw_C} {fs : List Value} (hc : vwCl[ci]? = some q) (he : ws[q0]? = some (b, .inr (ci, fs))) (hy : q.1 = C) (hcode : Cond.code y bytes maxL ret ∈ wsL_law) (hini : Cond.initialized y.cls ∈ wsL_law) (hl : Cond.methodLinkNest own index y host ∈ nwL) (hi : Cond.instanceMethod y ∈ wsL_law) (hse : Cond.selects C y y ∈ wsL_law) (hd : DN y n) (hn : As.length = n) (hR : RM R fr lo maxL) (hf : cells ≤ R.cells ∧ slots ≤ R.slots) (hsz : ls.size = nL) (hst : st = As.reverse ++ .ref b :: rest) (hW : (rest.map fun v => v.category).sum ≤ 8) (hdg : decode cc pc = .ok (.invokevirtual index, 3))
    (kk : ∀ (H1 : Heap) (locs1 : List Loc), va_P k.1 vwCl wn H1 → va_D A wn → va_S A H0 H1 locs1 → W p l e R s m args below meth c H1 locs1 cells slots Q (F0 m (pc + 3) ls (vo.toList ++ rest))) : W p l e R s m args below meth c H locs cells slots Q (F0 m pc ls st) := by
  have hF := va_free (wc := wc) hD hS hA isC hC
  have hPc : va_P k.1 vwCl wc H := by
    intro j x hx
    have h1 : (isC.map (fun i => ws[i]?))[j]? = some (some x) := by rw [hC, List.getElem?_map, hx]; rfl
    rw [List.getElem?_map] at h1
    cases h2 : isC[j]? with
    | none => rw [h2] at h1; cases h1
    | some i => rw [h2] at h1; exact hP i x (Option.some.inj h1)
  have hDc : va_D A wc := hD.sub isC hndC hC
  refine W.callWr (va_runVN S (hM H.size) ⟨cN S hK hcode hini hl hd hR, S.2.2.2.2 _ hi, S.2.2.2.2 _ hse⟩ ⟨wB.blind, hy ▸ va_recv hK.1 hP hc he, wB.at hPc hK hDc⟩ rfl hn hsz hst (lv_room hW) hdg hf) hS (fun q _ h => hF q h) hF (fun H1 locs1 h1 h2 h3 h4 => ?_)
  obtain ⟨hP', hD'⟩ := va_join (wr := wr) (w1 := wc') hP hD isC isR hC hRr hnd hdis h3 hF h1 h2
  exact kk H1 locs1 (hP'.sub isN hPn) (hD'.sub isN hndN hDn) h4
/-! branches, in one form: x < y, or x = y -/
theorem xb_lt (hx : p.tables.exec = Jvm.exec) (hb : c.code = cc) {x y : Int32} {off : Int} {tgt : Nat} (hdg : decode cc pc = .ok (.if_icmp .lt off, 3)) (ht : (pc : Int) + off = (tgt : Int)) (kt : x < y → W p l e R s m args below meth c H locs cells slots Q (F0 m tgt ls rest)) (kf : ¬ x < y → W p l e R s m args below meth c H locs cells slots Q (F0 m (pc + 3) ls rest)) : W p l e R s m args below meth c H locs cells slots Q (F0 m pc ls (.int y :: .int x :: rest)) := lv_icmp_lt hx hb hdg ht kt kf
theorem xb_ge (hx : p.tables.exec = Jvm.exec) (hb : c.code = cc) {x y : Int32} {off : Int} {tgt : Nat} (hdg : decode cc pc = .ok (.if_icmp .ge off, 3)) (ht : (pc : Int) + off = (tgt : Int)) (kt : ¬ x < y → W p l e R s m args below meth c H locs cells slots Q (F0 m tgt ls rest)) (kf : x < y → W p l e R s m args below meth c H locs cells slots Q (F0 m (pc + 3) ls rest)) : W p l e R s m args below meth c H locs cells slots Q (F0 m pc ls (.int y :: .int x :: rest)) := lv_icmp_ge hx hb hdg ht (fun h => kt (Int32.not_lt.mpr h)) (fun h => kf (Int32.not_le.mp h))
theorem xb_gt (hx : p.tables.exec = Jvm.exec) (hb : c.code = cc) {x y : Int32} {off : Int} {tgt : Nat} (hdg : decode cc pc = .ok (.if_icmp .gt off, 3)) (ht : (pc : Int) + off = (tgt : Int)) (kt : y < x → W p l e R s m args below meth c H locs cells slots Q (F0 m tgt ls rest)) (kf : ¬ y < x → W p l e R s m args below meth c H locs cells slots Q (F0 m (pc + 3) ls rest)) : W p l e R s m args below meth c H locs cells slots Q (F0 m pc ls (.int y :: .int x :: rest)) := lv_icmp_gt hx hb hdg ht kt kf
theorem xb_le (hx : p.tables.exec = Jvm.exec) (hb : c.code = cc) {x y : Int32} {off : Int} {tgt : Nat} (hdg : decode cc pc = .ok (.if_icmp .le off, 3)) (ht : (pc : Int) + off = (tgt : Int)) (kt : ¬ y < x → W p l e R s m args below meth c H locs cells slots Q (F0 m tgt ls rest)) (kf : y < x → W p l e R s m args below meth c H locs cells slots Q (F0 m (pc + 3) ls rest)) : W p l e R s m args below meth c H locs cells slots Q (F0 m pc ls (.int y :: .int x :: rest)) := lv_icmp_le hx hb hdg ht (fun h => kt (Int32.not_lt.mpr h)) (fun h => kf (Int32.not_le.mp h))
theorem xz_ge (hx : p.tables.exec = Jvm.exec) (hb : c.code = cc) {x : Int32} {off : Int} {tgt : Nat} (hdg : decode cc pc = .ok (.ifCond .ge off, 3)) (ht : (pc : Int) + off = (tgt : Int)) (kt : ¬ x < 0 → W p l e R s m args below meth c H locs cells slots Q (F0 m tgt ls rest)) (kf : x < 0 → W p l e R s m args below meth c H locs cells slots Q (F0 m (pc + 3) ls rest)) : W p l e R s m args below meth c H locs cells slots Q (F0 m pc ls (.int x :: rest)) := lv_if_ge hx hb hdg ht (fun h => kt (Int32.not_lt.mpr h)) (fun h => kf (Int32.not_le.mp h))
theorem xz_le (hx : p.tables.exec = Jvm.exec) (hb : c.code = cc) {x : Int32} {off : Int} {tgt : Nat} (hdg : decode cc pc = .ok (.ifCond .le off, 3)) (ht : (pc : Int) + off = (tgt : Int)) (kt : ¬ 0 < x → W p l e R s m args below meth c H locs cells slots Q (F0 m tgt ls rest)) (kf : 0 < x → W p l e R s m args below meth c H locs cells slots Q (F0 m (pc + 3) ls rest)) : W p l e R s m args below meth c H locs cells slots Q (F0 m pc ls (.int x :: rest)) := lv_if_le hx hb hdg ht (fun h => kt (Int32.not_lt.mpr h)) (fun h => kf (Int32.not_le.mp h))
/-- a compare of longs and the branch behind it -/
theorem xl_lt (hx : p.tables.exec = Jvm.exec) (hb : c.code = cc) {x y : Int64} {off : Int} {tgt : Nat} (hd1 : decode cc pc = .ok (.lcmp, 1)) (hdg : decode cc (pc + 1) = .ok (.ifCond .lt off, 3)) (ht : ((pc + 1 : Nat) : Int) + off = (tgt : Int)) (kt : x < y → W p l e R s m args below meth c H locs cells slots Q (F0 m tgt ls rest)) (kf : ¬ x < y → W p l e R s m args below meth c H locs cells slots Q (F0 m (pc + 4) ls rest)) : W p l e R s m args below meth c H locs cells slots Q (F0 m pc ls (.long y :: .long x :: rest)) := W.lcmp hx hb hd1 (lv_if_lt hx hb hdg ht (fun h => kt ((lg_cmp_lt x y).mp h)) (fun h => kf (fun q => h ((lg_cmp_lt x y).mpr q))))
theorem xl_ge (hx : p.tables.exec = Jvm.exec) (hb : c.code = cc) {x y : Int64} {off : Int} {tgt : Nat} (hd1 : decode cc pc = .ok (.lcmp, 1)) (hdg : decode cc (pc + 1) = .ok (.ifCond .ge off, 3)) (ht : ((pc + 1 : Nat) : Int) + off = (tgt : Int)) (kt : ¬ x < y → W p l e R s m args below meth c H locs cells slots Q (F0 m tgt ls rest)) (kf : x < y → W p l e R s m args below meth c H locs cells slots Q (F0 m (pc + 4) ls rest)) : W p l e R s m args below meth c H locs cells slots Q (F0 m pc ls (.long y :: .long x :: rest)) := W.lcmp hx hb hd1 (xz_ge hx hb hdg ht (fun h => kt (fun q => h ((lg_cmp_lt x y).mpr q))) (fun h => kf ((lg_cmp_lt x y).mp h)))
theorem xl_gt (hx : p.tables.exec = Jvm.exec) (hb : c.code = cc) {x y : Int64} {off : Int} {tgt : Nat} (hd1 : decode cc pc = .ok (.lcmp, 1)) (hdg : decode cc (pc + 1) = .ok (.ifCond .gt off, 3)) (ht : ((pc + 1 : Nat) : Int) + off = (tgt : Int)) (kt : y < x → W p l e R s m args below meth c H locs cells slots Q (F0 m tgt ls rest)) (kf : ¬ y < x → W p l e R s m args below meth c H locs cells slots Q (F0 m (pc + 4) ls rest)) : W p l e R s m args below meth c H locs cells slots Q (F0 m pc ls (.long y :: .long x :: rest)) := W.lcmp hx hb hd1 (lv_if_gt hx hb hdg ht (fun h => kt ((lg_cmp_gt x y).mp h)) (fun h => kf (fun q => h ((lg_cmp_gt x y).mpr q))))
theorem xl_le (hx : p.tables.exec = Jvm.exec) (hb : c.code = cc) {x y : Int64} {off : Int} {tgt : Nat} (hd1 : decode cc pc = .ok (.lcmp, 1)) (hdg : decode cc (pc + 1) = .ok (.ifCond .le off, 3)) (ht : ((pc + 1 : Nat) : Int) + off = (tgt : Int)) (kt : ¬ y < x → W p l e R s m args below meth c H locs cells slots Q (F0 m tgt ls rest)) (kf : y < x → W p l e R s m args below meth c H locs cells slots Q (F0 m (pc + 4) ls rest)) : W p l e R s m args below meth c H locs cells slots Q (F0 m pc ls (.long y :: .long x :: rest)) := W.lcmp hx hb hd1 (xz_le hx hb hdg ht (fun h => kt (fun q => h ((lg_cmp_gt x y).mpr q))) (fun h => kf ((lg_cmp_gt x y).mp h)))
theorem xl_eq (hx : p.tables.exec = Jvm.exec) (hb : c.code = cc) {x y : Int64} {off : Int} {tgt : Nat} (hd1 : decode cc pc = .ok (.lcmp, 1)) (hdg : decode cc (pc + 1) = .ok (.ifCond .eq off, 3)) (ht : ((pc + 1 : Nat) : Int) + off = (tgt : Int)) (kt : x = y → W p l e R s m args below meth c H locs cells slots Q (F0 m tgt ls rest)) (kf : ¬ x = y → W p l e R s m args below meth c H locs cells slots Q (F0 m (pc + 4) ls rest)) : W p l e R s m args below meth c H locs cells slots Q (F0 m pc ls (.long y :: .long x :: rest)) := W.lcmp hx hb hd1 (lv_if_eq hx hb hdg ht (fun h => kt ((lg_cmp_eq x y).mp h)) (fun h => kf (fun q => h ((lg_cmp_eq x y).mpr q))))
theorem xl_ne (hx : p.tables.exec = Jvm.exec) (hb : c.code = cc) {x y : Int64} {off : Int} {tgt : Nat} (hd1 : decode cc pc = .ok (.lcmp, 1)) (hdg : decode cc (pc + 1) = .ok (.ifCond .ne off, 3)) (ht : ((pc + 1 : Nat) : Int) + off = (tgt : Int)) (kt : ¬ x = y → W p l e R s m args below meth c H locs cells slots Q (F0 m tgt ls rest)) (kf : x = y → W p l e R s m args below meth c H locs cells slots Q (F0 m (pc + 4) ls rest)) : W p l e R s m args below meth c H locs cells slots Q (F0 m pc ls (.long y :: .long x :: rest)) := W.lcmp hx hb hd1 (lv_if_ne hx hb hdg ht (fun h => kt (fun q => h ((lg_cmp_eq x y).mpr q))) (fun h => kf ((lg_cmp_eq x y).mp h)))
end FR
/-! rows of arrays, by a Nat place -/
section FA
variable {p : Program} {l : Launch} {e : Env} {R : Room} {s : State} {m : MethodId} {args : Array Value} {below : List Frame} {meth : Method} {c : Code} {H : Heap} {locs : List Loc} {cells slots : Nat} {Q : State → Prop}
variable {cc : ByteArray} {pc : Nat} {ls : Array Slot} {rest : List Value} {D : va_G} {cl : List vw_C} {A : Nat → Prop} {a : Nat} {tys : List (ClassId × FieldType)} {ws : va_W} {H0 : Heap}
theorem xa_lald (hx : p.tables.exec = Jvm.exec) (hb : c.code = cc) (hK : va_K D cl tys s) (hP : va_P D cl ws H) (q0 t0 : Nat) {cA : ClassId} {n : Nat} {f : Nat → Int64} (ha : ws[q0]? = some (a, .inl (cA, n, .inr (.inl f)))) (ht : tys[t0]? = some (cA, .long)) {i : Int32} {j : Nat} (hi : i = nI j) (hj : j < n) (hn : n < 2 ^ 31) (hdg : decode cc pc = .ok (.laload, 1))
    (kk : W p l e R s m args below meth c H locs cells slots Q (F0 m (pc + 1) ls (.long (f j) :: rest))) : W p l e R s m args below meth c H locs cells slots Q (F0 m pc ls (.int i :: .ref a :: rest)) := by
  subst hi
  exact va_lald hx hb hK hP q0 t0 ha ht (vp_in_nI hj hn) hdg (by rw [nI_clamp (Nat.lt_trans hj hn)]; exact kk)
theorem xa_iald (hx : p.tables.exec = Jvm.exec) (hb : c.code = cc) (hK : va_K D cl tys s) (hP : va_P D cl ws H) (q0 t0 : Nat) {cA : ClassId} {n : Nat} {f : Nat → Int32} (ha : ws[q0]? = some (a, .inl (cA, n, .inl f))) (ht : tys[t0]? = some (cA, .int)) {i : Int32} {j : Nat} (hi : i = nI j) (hj : j < n) (hn : n < 2 ^ 31) (hdg : decode cc pc = .ok (.iaload, 1))
    (kk : W p l e R s m args below meth c H locs cells slots Q (F0 m (pc + 1) ls (.int (f j) :: rest))) : W p l e R s m args below meth c H locs cells slots Q (F0 m pc ls (.int i :: .ref a :: rest)) := by
  subst hi
  exact va_iald hx hb hK hP q0 t0 ha ht (vp_in_nI hj hn) hdg (by rw [nI_clamp (Nat.lt_trans hj hn)]; exact kk)
theorem xa_zald (hx : p.tables.exec = Jvm.exec) (hb : c.code = cc) (hK : va_K D cl tys s) (hP : va_P D cl ws H) (q0 t0 : Nat) {cA : ClassId} {n : Nat} {f : Nat → Int32} (ha : ws[q0]? = some (a, .inl (cA, n, .inl f))) (ht : tys[t0]? = some (cA, .boolean)) {i : Int32} {j : Nat} (hi : i = nI j) (hj : j < n) (hn : n < 2 ^ 31) (hdg : decode cc pc = .ok (.baload, 1))
    (kk : W p l e R s m args below meth c H locs cells slots Q (F0 m (pc + 1) ls (.int (f j) :: rest))) : W p l e R s m args below meth c H locs cells slots Q (F0 m pc ls (.int i :: .ref a :: rest)) := by
  subst hi
  exact va_zald hx hb hK hP q0 t0 ha ht (vp_in_nI hj hn) hdg (by rw [nI_clamp (Nat.lt_trans hj hn)]; exact kk)
theorem xa_last (hx : p.tables.exec = Jvm.exec) (hb : c.code = cc) (hK : va_K D cl tys s) (hP : va_P D cl ws H) (hD : va_D A ws) (hS : va_S A H0 H locs) (q0 t0 : Nat) {cA : ClassId} {n : Nat} {f : Nat → Int64} (ha : ws[q0]? = some (a, .inl (cA, n, .inr (.inl f)))) (ht : tys[t0]? = some (cA, .long)) {i : Int32} {x : Int64} {j : Nat} (hi : i = nI j) (hj : j < n) (hn : n < 2 ^ 31) (hdg : decode cc pc = .ok (.lastore, 1))
    (kk : ∀ (H1 : Heap) (locs1 : List Loc), va_P D cl (ws.set q0 (a, .inl (cA, n, .inr (.inl (vp_updL f j x))))) H1 → va_D A (ws.set q0 (a, .inl (cA, n, .inr (.inl (vp_updL f j x))))) → va_S A H0 H1 locs1 → W p l e R s m args below meth c H1 locs1 cells slots Q (F0 m (pc + 1) ls rest)) : W p l e R s m args below meth c H locs cells slots Q (F0 m pc ls (.long x :: .int i :: .ref a :: rest)) := by
  subst hi
  exact va_last hx hb hK hP hD hS q0 t0 ha ht (vp_in_nI hj hn) hdg (by rw [nI_clamp (Nat.lt_trans hj hn)]; exact kk)
theorem xa_iast (hx : p.tables.exec = Jvm.exec) (hb : c.code = cc) (hK : va_K D cl tys s) (hP : va_P D cl ws H) (hD : va_D A ws) (hS : va_S A H0 H locs) (q0 t0 : Nat) {cA : ClassId} {n : Nat} {f : Nat → Int32} (ha : ws[q0]? = some (a, .inl (cA, n, .inl f))) (ht : tys[t0]? = some (cA, .int)) {i x : Int32} {j : Nat} (hi : i = nI j) (hj : j < n) (hn : n < 2 ^ 31) (hdg : decode cc pc = .ok (.iastore, 1))
    (kk : ∀ (H1 : Heap) (locs1 : List Loc), va_P D cl (ws.set q0 (a, .inl (cA, n, .inl (upd f j x)))) H1 → va_D A (ws.set q0 (a, .inl (cA, n, .inl (upd f j x)))) → va_S A H0 H1 locs1 → W p l e R s m args below meth c H1 locs1 cells slots Q (F0 m (pc + 1) ls rest)) : W p l e R s m args below meth c H locs cells slots Q (F0 m pc ls (.int x :: .int i :: .ref a :: rest)) := by
  subst hi
  exact va_iast hx hb hK hP hD hS q0 t0 ha ht (vp_in_nI hj hn) hdg (by rw [nI_clamp (Nat.lt_trans hj hn)]; exact kk)
theorem xa_zast (hx : p.tables.exec = Jvm.exec) (hb : c.code = cc) (hK : va_K D cl tys s) (hP : va_P D cl ws H) (hD : va_D A ws) (hS : va_S A H0 H locs) (q0 t0 : Nat) {cA : ClassId} {n : Nat} {f : Nat → Int32} (ha : ws[q0]? = some (a, .inl (cA, n, .inl f))) (ht : tys[t0]? = some (cA, .boolean)) {i x : Int32} {j : Nat} (hi : i = nI j) (hj : j < n) (hn : n < 2 ^ 31) (hz : vp_nar .boolean x = x) (hdg : decode cc pc = .ok (.bastore, 1))
    (kk : ∀ (H1 : Heap) (locs1 : List Loc), va_P D cl (ws.set q0 (a, .inl (cA, n, .inl (upd f j x)))) H1 → va_D A (ws.set q0 (a, .inl (cA, n, .inl (upd f j x)))) → va_S A H0 H1 locs1 → W p l e R s m args below meth c H1 locs1 cells slots Q (F0 m (pc + 1) ls rest)) : W p l e R s m args below meth c H locs cells slots Q (F0 m pc ls (.int x :: .int i :: .ref a :: rest)) := by
  subst hi
  exact va_zast hx hb hK hP hD hS q0 t0 ha ht (vp_in_nI hj hn) hdg (by rw [nI_clamp (Nat.lt_trans hj hn), hz]; exact kk)
end FA
def iu (x y : Int32) : Int32 := (x.toUInt32 >>> (y.toUInt32 &&& Int32.toUInt32 31)).toInt32
def lu (x : Int64) (y : Int32) : Int64 := (x.toUInt64 >>> (y.toInt64.toUInt64 &&& Int64.toUInt64 63)).toInt64
def lh (x : Int64) (y : Int32) : Int64 := x <<< (y.toInt64 &&& 63)
end
section
abbrev SeaT : Type := (Nat → Int64) × (Nat → Int64) × (Nat → Int64) × (Nat → Int64) × (Nat → Int32) × (Nat → Int64) × (Nat → Int64) × (Nat → Int64) × (Nat → Int64) × Int64 × Int64 × Int64 × Int32 × Int32 × Int32 × Int32
def S_costs (z : SeaT) : Nat → Int64 := z.1
def S_amounts (z : SeaT) : Nat → Int64 := z.2.1
def S_hours (z : SeaT) : Nat → Int64 := z.2.2.1
def S_borders (z : SeaT) : Nat → Int64 := z.2.2.2.1
def S_tooFar (z : SeaT) : Nat → Int32 := z.2.2.2.2.1
def S_kindTotals (z : SeaT) : Nat → Int64 := z.2.2.2.2.2.1
def S_portTotals (z : SeaT) : Nat → Int64 := z.2.2.2.2.2.2.1
def S_goalAbove (z : SeaT) : Nat → Int64 := z.2.2.2.2.2.2.2.1
def S_goalBelow (z : SeaT) : Nat → Int64 := z.2.2.2.2.2.2.2.2.1
def S_fairAbove (z : SeaT) : Int64 := z.2.2.2.2.2.2.2.2.2.1
def S_fairBelow (z : SeaT) : Int64 := z.2.2.2.2.2.2.2.2.2.2.1
def S_borderWeight (z : SeaT) : Int64 := z.2.2.2.2.2.2.2.2.2.2.2.1
def S_cells (z : SeaT) : Int32 := z.2.2.2.2.2.2.2.2.2.2.2.2.1
def S_needed (z : SeaT) : Int32 := z.2.2.2.2.2.2.2.2.2.2.2.2.2.1
def S_barred (z : SeaT) : Int32 := z.2.2.2.2.2.2.2.2.2.2.2.2.2.2.1
def S_fewest (z : SeaT) : Int32 := z.2.2.2.2.2.2.2.2.2.2.2.2.2.2.2
def sS_costs (z : SeaT) (v : Nat → Int64) : SeaT := (v, S_amounts z, S_hours z, S_borders z, S_tooFar z, S_kindTotals z, S_portTotals z, S_goalAbove z, S_goalBelow z, S_fairAbove z, S_fairBelow z, S_borderWeight z, S_cells z, S_needed z, S_barred z, S_fewest z)
def sS_amounts (z : SeaT) (v : Nat → Int64) : SeaT := (S_costs z, v, S_hours z, S_borders z, S_tooFar z, S_kindTotals z, S_portTotals z, S_goalAbove z, S_goalBelow z, S_fairAbove z, S_fairBelow z, S_borderWeight z, S_cells z, S_needed z, S_barred z, S_fewest z)
def sS_hours (z : SeaT) (v : Nat → Int64) : SeaT := (S_costs z, S_amounts z, v, S_borders z, S_tooFar z, S_kindTotals z, S_portTotals z, S_goalAbove z, S_goalBelow z, S_fairAbove z, S_fairBelow z, S_borderWeight z, S_cells z, S_needed z, S_barred z, S_fewest z)
def sS_borders (z : SeaT) (v : Nat → Int64) : SeaT := (S_costs z, S_amounts z, S_hours z, v, S_tooFar z, S_kindTotals z, S_portTotals z, S_goalAbove z, S_goalBelow z, S_fairAbove z, S_fairBelow z, S_borderWeight z, S_cells z, S_needed z, S_barred z, S_fewest z)
def sS_tooFar (z : SeaT) (v : Nat → Int32) : SeaT := (S_costs z, S_amounts z, S_hours z, S_borders z, v, S_kindTotals z, S_portTotals z, S_goalAbove z, S_goalBelow z, S_fairAbove z, S_fairBelow z, S_borderWeight z, S_cells z, S_needed z, S_barred z, S_fewest z)
def sS_kindTotals (z : SeaT) (v : Nat → Int64) : SeaT := (S_costs z, S_amounts z, S_hours z, S_borders z, S_tooFar z, v, S_portTotals z, S_goalAbove z, S_goalBelow z, S_fairAbove z, S_fairBelow z, S_borderWeight z, S_cells z, S_needed z, S_barred z, S_fewest z)
def sS_portTotals (z : SeaT) (v : Nat → Int64) : SeaT := (S_costs z, S_amounts z, S_hours z, S_borders z, S_tooFar z, S_kindTotals z, v, S_goalAbove z, S_goalBelow z, S_fairAbove z, S_fairBelow z, S_borderWeight z, S_cells z, S_needed z, S_barred z, S_fewest z)
def sS_goalAbove (z : SeaT) (v : Nat → Int64) : SeaT := (S_costs z, S_amounts z, S_hours z, S_borders z, S_tooFar z, S_kindTotals z, S_portTotals z, v, S_goalBelow z, S_fairAbove z, S_fairBelow z, S_borderWeight z, S_cells z, S_needed z, S_barred z, S_fewest z)
def sS_goalBelow (z : SeaT) (v : Nat → Int64) : SeaT := (S_costs z, S_amounts z, S_hours z, S_borders z, S_tooFar z, S_kindTotals z, S_portTotals z, S_goalAbove z, v, S_fairAbove z, S_fairBelow z, S_borderWeight z, S_cells z, S_needed z, S_barred z, S_fewest z)
def sS_fairAbove (z : SeaT) (v : Int64) : SeaT := (S_costs z, S_amounts z, S_hours z, S_borders z, S_tooFar z, S_kindTotals z, S_portTotals z, S_goalAbove z, S_goalBelow z, v, S_fairBelow z, S_borderWeight z, S_cells z, S_needed z, S_barred z, S_fewest z)
def sS_fairBelow (z : SeaT) (v : Int64) : SeaT := (S_costs z, S_amounts z, S_hours z, S_borders z, S_tooFar z, S_kindTotals z, S_portTotals z, S_goalAbove z, S_goalBelow z, S_fairAbove z, v, S_borderWeight z, S_cells z, S_needed z, S_barred z, S_fewest z)
def sS_borderWeight (z : SeaT) (v : Int64) : SeaT := (S_costs z, S_amounts z, S_hours z, S_borders z, S_tooFar z, S_kindTotals z, S_portTotals z, S_goalAbove z, S_goalBelow z, S_fairAbove z, S_fairBelow z, v, S_cells z, S_needed z, S_barred z, S_fewest z)
def sS_cells (z : SeaT) (v : Int32) : SeaT := (S_costs z, S_amounts z, S_hours z, S_borders z, S_tooFar z, S_kindTotals z, S_portTotals z, S_goalAbove z, S_goalBelow z, S_fairAbove z, S_fairBelow z, S_borderWeight z, v, S_needed z, S_barred z, S_fewest z)
def sS_needed (z : SeaT) (v : Int32) : SeaT := (S_costs z, S_amounts z, S_hours z, S_borders z, S_tooFar z, S_kindTotals z, S_portTotals z, S_goalAbove z, S_goalBelow z, S_fairAbove z, S_fairBelow z, S_borderWeight z, S_cells z, v, S_barred z, S_fewest z)
def sS_barred (z : SeaT) (v : Int32) : SeaT := (S_costs z, S_amounts z, S_hours z, S_borders z, S_tooFar z, S_kindTotals z, S_portTotals z, S_goalAbove z, S_goalBelow z, S_fairAbove z, S_fairBelow z, S_borderWeight z, S_cells z, S_needed z, v, S_fewest z)
def sS_fewest (z : SeaT) (v : Int32) : SeaT := (S_costs z, S_amounts z, S_hours z, S_borders z, S_tooFar z, S_kindTotals z, S_portTotals z, S_goalAbove z, S_goalBelow z, S_fairAbove z, S_fairBelow z, S_borderWeight z, S_cells z, S_needed z, S_barred z, v)
abbrev TalT : Type := (Nat → Int64) × (Nat → Int64) × Int32 × Int32 × Int64 × Int64
def T_amounts (z : TalT) : Nat → Int64 := z.1
def T_hours (z : TalT) : Nat → Int64 := z.2.1
def T_cells (z : TalT) : Int32 := z.2.2.1
def T_farPairs (z : TalT) : Int32 := z.2.2.2.1
def T_cellCosts (z : TalT) : Int64 := z.2.2.2.2.1
def T_borderLength (z : TalT) : Int64 := z.2.2.2.2.2
def sT_amounts (z : TalT) (v : Nat → Int64) : TalT := (v, T_hours z, T_cells z, T_farPairs z, T_cellCosts z, T_borderLength z)
def sT_hours (z : TalT) (v : Nat → Int64) : TalT := (T_amounts z, v, T_cells z, T_farPairs z, T_cellCosts z, T_borderLength z)
def sT_cells (z : TalT) (v : Int32) : TalT := (T_amounts z, T_hours z, v, T_farPairs z, T_cellCosts z, T_borderLength z)
def sT_farPairs (z : TalT) (v : Int32) : TalT := (T_amounts z, T_hours z, T_cells z, v, T_cellCosts z, T_borderLength z)
def sT_cellCosts (z : TalT) (v : Int64) : TalT := (T_amounts z, T_hours z, T_cells z, T_farPairs z, v, T_borderLength z)
def sT_borderLength (z : TalT) (v : Int64) : TalT := (T_amounts z, T_hours z, T_cells z, T_farPairs z, T_cellCosts z, v)
abbrev ChoT : Type := Int32 × Int32 × Int64
def C_there (z : ChoT) : Int32 := z.1
def C_cells (z : ChoT) : Int32 := z.2.1
def C_price (z : ChoT) : Int64 := z.2.2
def sC_there (z : ChoT) (v : Int32) : ChoT := (v, C_cells z, C_price z)
def sC_cells (z : ChoT) (v : Int32) : ChoT := (C_there z, v, C_price z)
def sC_price (z : ChoT) (v : Int64) : ChoT := (C_there z, C_cells z, v)
abbrev GoT : Type := Int32 × Int32 × Int64 × Int32
def G_cellsBefore (z : GoT) : Int32 := z.1
def G_runAnswer (z : GoT) : Int32 := z.2.1
def G_toldBound (z : GoT) : Int64 := z.2.2.1
def G_clashingKinds (z : GoT) : Int32 := z.2.2.2
def sG_cellsBefore (z : GoT) (v : Int32) : GoT := (v, G_runAnswer z, G_toldBound z, G_clashingKinds z)
def sG_runAnswer (z : GoT) (v : Int32) : GoT := (G_cellsBefore z, v, G_toldBound z, G_clashingKinds z)
def sG_toldBound (z : GoT) (v : Int64) : GoT := (G_cellsBefore z, G_runAnswer z, v, G_clashingKinds z)
def sG_clashingKinds (z : GoT) (v : Int32) : GoT := (G_cellsBefore z, G_runAnswer z, G_toldBound z, v)
abbrev ModT : Type := Int32 × (Nat → Int64) × (Nat → Int32) × (Nat → Int64) × (Nat → Int64) × (Nat → Int64) × (Nat → Int32) × (Nat → Int32) × (Nat → Int64) × (Nat → Int64) × Int32 × Int64 × Int64 × Int64 × Int32 × Int64 × Int32 × Int32 × Int32 × Int64 × Int32 × Int32 × Int64 × Int32 × Int32 × Int64 × Int32
def M_cells (z : ModT) : Int32 := z.1
def M_costs (z : ModT) : Nat → Int64 := z.2.1
def M_states (z : ModT) : Nat → Int32 := z.2.2.1
def M_amounts (z : ModT) : Nat → Int64 := z.2.2.2.1
def M_hours (z : ModT) : Nat → Int64 := z.2.2.2.2.1
def M_borders (z : ModT) : Nat → Int64 := z.2.2.2.2.2.1
def M_apart (z : ModT) : Nat → Int32 := z.2.2.2.2.2.2.1
def M_hasGoal (z : ModT) : Nat → Int32 := z.2.2.2.2.2.2.2.1
def M_goalAbove (z : ModT) : Nat → Int64 := z.2.2.2.2.2.2.2.2.1
def M_goalBelow (z : ModT) : Nat → Int64 := z.2.2.2.2.2.2.2.2.2.1
def M_isFair (z : ModT) : Int32 := z.2.2.2.2.2.2.2.2.2.2.1
def M_fairAbove (z : ModT) : Int64 := z.2.2.2.2.2.2.2.2.2.2.2.1
def M_fairBelow (z : ModT) : Int64 := z.2.2.2.2.2.2.2.2.2.2.2.2.1
def M_weight (z : ModT) : Int64 := z.2.2.2.2.2.2.2.2.2.2.2.2.2.1
def M_least (z : ModT) : Int32 := z.2.2.2.2.2.2.2.2.2.2.2.2.2.2.1
def M_draw (z : ModT) : Int64 := z.2.2.2.2.2.2.2.2.2.2.2.2.2.2.2.1
def M_hasChoice (z : ModT) : Int32 := z.2.2.2.2.2.2.2.2.2.2.2.2.2.2.2.2.1
def M_choice (z : ModT) : Int32 := z.2.2.2.2.2.2.2.2.2.2.2.2.2.2.2.2.2.1
def M_earlier (z : ModT) : Int32 := z.2.2.2.2.2.2.2.2.2.2.2.2.2.2.2.2.2.2.1
def M_cost (z : ModT) : Int64 := z.2.2.2.2.2.2.2.2.2.2.2.2.2.2.2.2.2.2.2.1
def M_hasRun (z : ModT) : Int32 := z.2.2.2.2.2.2.2.2.2.2.2.2.2.2.2.2.2.2.2.2.1
def M_answer (z : ModT) : Int32 := z.2.2.2.2.2.2.2.2.2.2.2.2.2.2.2.2.2.2.2.2.2.1
def M_bound (z : ModT) : Int64 := z.2.2.2.2.2.2.2.2.2.2.2.2.2.2.2.2.2.2.2.2.2.2.1
def M_clashes (z : ModT) : Int32 := z.2.2.2.2.2.2.2.2.2.2.2.2.2.2.2.2.2.2.2.2.2.2.2.1
def M_tried (z : ModT) : Int32 := z.2.2.2.2.2.2.2.2.2.2.2.2.2.2.2.2.2.2.2.2.2.2.2.2.1
def M_triedCost (z : ModT) : Int64 := z.2.2.2.2.2.2.2.2.2.2.2.2.2.2.2.2.2.2.2.2.2.2.2.2.2.1
def M_kept (z : ModT) : Int32 := z.2.2.2.2.2.2.2.2.2.2.2.2.2.2.2.2.2.2.2.2.2.2.2.2.2.2
def sM_cells (z : ModT) (v : Int32) : ModT := (v, M_costs z, M_states z, M_amounts z, M_hours z, M_borders z, M_apart z, M_hasGoal z, M_goalAbove z, M_goalBelow z, M_isFair z, M_fairAbove z, M_fairBelow z, M_weight z, M_least z, M_draw z, M_hasChoice z, M_choice z, M_earlier z, M_cost z, M_hasRun z, M_answer z, M_bound z, M_clashes z, M_tried z, M_triedCost z, M_kept z)
def sM_costs (z : ModT) (v : Nat → Int64) : ModT := (M_cells z, v, M_states z, M_amounts z, M_hours z, M_borders z, M_apart z, M_hasGoal z, M_goalAbove z, M_goalBelow z, M_isFair z, M_fairAbove z, M_fairBelow z, M_weight z, M_least z, M_draw z, M_hasChoice z, M_choice z, M_earlier z, M_cost z, M_hasRun z, M_answer z, M_bound z, M_clashes z, M_tried z, M_triedCost z, M_kept z)
def sM_states (z : ModT) (v : Nat → Int32) : ModT := (M_cells z, M_costs z, v, M_amounts z, M_hours z, M_borders z, M_apart z, M_hasGoal z, M_goalAbove z, M_goalBelow z, M_isFair z, M_fairAbove z, M_fairBelow z, M_weight z, M_least z, M_draw z, M_hasChoice z, M_choice z, M_earlier z, M_cost z, M_hasRun z, M_answer z, M_bound z, M_clashes z, M_tried z, M_triedCost z, M_kept z)
def sM_amounts (z : ModT) (v : Nat → Int64) : ModT := (M_cells z, M_costs z, M_states z, v, M_hours z, M_borders z, M_apart z, M_hasGoal z, M_goalAbove z, M_goalBelow z, M_isFair z, M_fairAbove z, M_fairBelow z, M_weight z, M_least z, M_draw z, M_hasChoice z, M_choice z, M_earlier z, M_cost z, M_hasRun z, M_answer z, M_bound z, M_clashes z, M_tried z, M_triedCost z, M_kept z)
def sM_hours (z : ModT) (v : Nat → Int64) : ModT := (M_cells z, M_costs z, M_states z, M_amounts z, v, M_borders z, M_apart z, M_hasGoal z, M_goalAbove z, M_goalBelow z, M_isFair z, M_fairAbove z, M_fairBelow z, M_weight z, M_least z, M_draw z, M_hasChoice z, M_choice z, M_earlier z, M_cost z, M_hasRun z, M_answer z, M_bound z, M_clashes z, M_tried z, M_triedCost z, M_kept z)
def sM_borders (z : ModT) (v : Nat → Int64) : ModT := (M_cells z, M_costs z, M_states z, M_amounts z, M_hours z, v, M_apart z, M_hasGoal z, M_goalAbove z, M_goalBelow z, M_isFair z, M_fairAbove z, M_fairBelow z, M_weight z, M_least z, M_draw z, M_hasChoice z, M_choice z, M_earlier z, M_cost z, M_hasRun z, M_answer z, M_bound z, M_clashes z, M_tried z, M_triedCost z, M_kept z)
def sM_apart (z : ModT) (v : Nat → Int32) : ModT := (M_cells z, M_costs z, M_states z, M_amounts z, M_hours z, M_borders z, v, M_hasGoal z, M_goalAbove z, M_goalBelow z, M_isFair z, M_fairAbove z, M_fairBelow z, M_weight z, M_least z, M_draw z, M_hasChoice z, M_choice z, M_earlier z, M_cost z, M_hasRun z, M_answer z, M_bound z, M_clashes z, M_tried z, M_triedCost z, M_kept z)
def sM_hasGoal (z : ModT) (v : Nat → Int32) : ModT := (M_cells z, M_costs z, M_states z, M_amounts z, M_hours z, M_borders z, M_apart z, v, M_goalAbove z, M_goalBelow z, M_isFair z, M_fairAbove z, M_fairBelow z, M_weight z, M_least z, M_draw z, M_hasChoice z, M_choice z, M_earlier z, M_cost z, M_hasRun z, M_answer z, M_bound z, M_clashes z, M_tried z, M_triedCost z, M_kept z)
def sM_goalAbove (z : ModT) (v : Nat → Int64) : ModT := (M_cells z, M_costs z, M_states z, M_amounts z, M_hours z, M_borders z, M_apart z, M_hasGoal z, v, M_goalBelow z, M_isFair z, M_fairAbove z, M_fairBelow z, M_weight z, M_least z, M_draw z, M_hasChoice z, M_choice z, M_earlier z, M_cost z, M_hasRun z, M_answer z, M_bound z, M_clashes z, M_tried z, M_triedCost z, M_kept z)
def sM_goalBelow (z : ModT) (v : Nat → Int64) : ModT := (M_cells z, M_costs z, M_states z, M_amounts z, M_hours z, M_borders z, M_apart z, M_hasGoal z, M_goalAbove z, v, M_isFair z, M_fairAbove z, M_fairBelow z, M_weight z, M_least z, M_draw z, M_hasChoice z, M_choice z, M_earlier z, M_cost z, M_hasRun z, M_answer z, M_bound z, M_clashes z, M_tried z, M_triedCost z, M_kept z)
def sM_isFair (z : ModT) (v : Int32) : ModT := (M_cells z, M_costs z, M_states z, M_amounts z, M_hours z, M_borders z, M_apart z, M_hasGoal z, M_goalAbove z, M_goalBelow z, v, M_fairAbove z, M_fairBelow z, M_weight z, M_least z, M_draw z, M_hasChoice z, M_choice z, M_earlier z, M_cost z, M_hasRun z, M_answer z, M_bound z, M_clashes z, M_tried z, M_triedCost z, M_kept z)
def sM_fairAbove (z : ModT) (v : Int64) : ModT := (M_cells z, M_costs z, M_states z, M_amounts z, M_hours z, M_borders z, M_apart z, M_hasGoal z, M_goalAbove z, M_goalBelow z, M_isFair z, v, M_fairBelow z, M_weight z, M_least z, M_draw z, M_hasChoice z, M_choice z, M_earlier z, M_cost z, M_hasRun z, M_answer z, M_bound z, M_clashes z, M_tried z, M_triedCost z, M_kept z)
def sM_fairBelow (z : ModT) (v : Int64) : ModT := (M_cells z, M_costs z, M_states z, M_amounts z, M_hours z, M_borders z, M_apart z, M_hasGoal z, M_goalAbove z, M_goalBelow z, M_isFair z, M_fairAbove z, v, M_weight z, M_least z, M_draw z, M_hasChoice z, M_choice z, M_earlier z, M_cost z, M_hasRun z, M_answer z, M_bound z, M_clashes z, M_tried z, M_triedCost z, M_kept z)
def sM_weight (z : ModT) (v : Int64) : ModT := (M_cells z, M_costs z, M_states z, M_amounts z, M_hours z, M_borders z, M_apart z, M_hasGoal z, M_goalAbove z, M_goalBelow z, M_isFair z, M_fairAbove z, M_fairBelow z, v, M_least z, M_draw z, M_hasChoice z, M_choice z, M_earlier z, M_cost z, M_hasRun z, M_answer z, M_bound z, M_clashes z, M_tried z, M_triedCost z, M_kept z)
def sM_least (z : ModT) (v : Int32) : ModT := (M_cells z, M_costs z, M_states z, M_amounts z, M_hours z, M_borders z, M_apart z, M_hasGoal z, M_goalAbove z, M_goalBelow z, M_isFair z, M_fairAbove z, M_fairBelow z, M_weight z, v, M_draw z, M_hasChoice z, M_choice z, M_earlier z, M_cost z, M_hasRun z, M_answer z, M_bound z, M_clashes z, M_tried z, M_triedCost z, M_kept z)
def sM_draw (z : ModT) (v : Int64) : ModT := (M_cells z, M_costs z, M_states z, M_amounts z, M_hours z, M_borders z, M_apart z, M_hasGoal z, M_goalAbove z, M_goalBelow z, M_isFair z, M_fairAbove z, M_fairBelow z, M_weight z, M_least z, v, M_hasChoice z, M_choice z, M_earlier z, M_cost z, M_hasRun z, M_answer z, M_bound z, M_clashes z, M_tried z, M_triedCost z, M_kept z)
def sM_hasChoice (z : ModT) (v : Int32) : ModT := (M_cells z, M_costs z, M_states z, M_amounts z, M_hours z, M_borders z, M_apart z, M_hasGoal z, M_goalAbove z, M_goalBelow z, M_isFair z, M_fairAbove z, M_fairBelow z, M_weight z, M_least z, M_draw z, v, M_choice z, M_earlier z, M_cost z, M_hasRun z, M_answer z, M_bound z, M_clashes z, M_tried z, M_triedCost z, M_kept z)
def sM_choice (z : ModT) (v : Int32) : ModT := (M_cells z, M_costs z, M_states z, M_amounts z, M_hours z, M_borders z, M_apart z, M_hasGoal z, M_goalAbove z, M_goalBelow z, M_isFair z, M_fairAbove z, M_fairBelow z, M_weight z, M_least z, M_draw z, M_hasChoice z, v, M_earlier z, M_cost z, M_hasRun z, M_answer z, M_bound z, M_clashes z, M_tried z, M_triedCost z, M_kept z)
def sM_earlier (z : ModT) (v : Int32) : ModT := (M_cells z, M_costs z, M_states z, M_amounts z, M_hours z, M_borders z, M_apart z, M_hasGoal z, M_goalAbove z, M_goalBelow z, M_isFair z, M_fairAbove z, M_fairBelow z, M_weight z, M_least z, M_draw z, M_hasChoice z, M_choice z, v, M_cost z, M_hasRun z, M_answer z, M_bound z, M_clashes z, M_tried z, M_triedCost z, M_kept z)
def sM_cost (z : ModT) (v : Int64) : ModT := (M_cells z, M_costs z, M_states z, M_amounts z, M_hours z, M_borders z, M_apart z, M_hasGoal z, M_goalAbove z, M_goalBelow z, M_isFair z, M_fairAbove z, M_fairBelow z, M_weight z, M_least z, M_draw z, M_hasChoice z, M_choice z, M_earlier z, v, M_hasRun z, M_answer z, M_bound z, M_clashes z, M_tried z, M_triedCost z, M_kept z)
def sM_hasRun (z : ModT) (v : Int32) : ModT := (M_cells z, M_costs z, M_states z, M_amounts z, M_hours z, M_borders z, M_apart z, M_hasGoal z, M_goalAbove z, M_goalBelow z, M_isFair z, M_fairAbove z, M_fairBelow z, M_weight z, M_least z, M_draw z, M_hasChoice z, M_choice z, M_earlier z, M_cost z, v, M_answer z, M_bound z, M_clashes z, M_tried z, M_triedCost z, M_kept z)
def sM_answer (z : ModT) (v : Int32) : ModT := (M_cells z, M_costs z, M_states z, M_amounts z, M_hours z, M_borders z, M_apart z, M_hasGoal z, M_goalAbove z, M_goalBelow z, M_isFair z, M_fairAbove z, M_fairBelow z, M_weight z, M_least z, M_draw z, M_hasChoice z, M_choice z, M_earlier z, M_cost z, M_hasRun z, v, M_bound z, M_clashes z, M_tried z, M_triedCost z, M_kept z)
def sM_bound (z : ModT) (v : Int64) : ModT := (M_cells z, M_costs z, M_states z, M_amounts z, M_hours z, M_borders z, M_apart z, M_hasGoal z, M_goalAbove z, M_goalBelow z, M_isFair z, M_fairAbove z, M_fairBelow z, M_weight z, M_least z, M_draw z, M_hasChoice z, M_choice z, M_earlier z, M_cost z, M_hasRun z, M_answer z, v, M_clashes z, M_tried z, M_triedCost z, M_kept z)
def sM_clashes (z : ModT) (v : Int32) : ModT := (M_cells z, M_costs z, M_states z, M_amounts z, M_hours z, M_borders z, M_apart z, M_hasGoal z, M_goalAbove z, M_goalBelow z, M_isFair z, M_fairAbove z, M_fairBelow z, M_weight z, M_least z, M_draw z, M_hasChoice z, M_choice z, M_earlier z, M_cost z, M_hasRun z, M_answer z, M_bound z, v, M_tried z, M_triedCost z, M_kept z)
def sM_tried (z : ModT) (v : Int32) : ModT := (M_cells z, M_costs z, M_states z, M_amounts z, M_hours z, M_borders z, M_apart z, M_hasGoal z, M_goalAbove z, M_goalBelow z, M_isFair z, M_fairAbove z, M_fairBelow z, M_weight z, M_least z, M_draw z, M_hasChoice z, M_choice z, M_earlier z, M_cost z, M_hasRun z, M_answer z, M_bound z, M_clashes z, v, M_triedCost z, M_kept z)
def sM_triedCost (z : ModT) (v : Int64) : ModT := (M_cells z, M_costs z, M_states z, M_amounts z, M_hours z, M_borders z, M_apart z, M_hasGoal z, M_goalAbove z, M_goalBelow z, M_isFair z, M_fairAbove z, M_fairBelow z, M_weight z, M_least z, M_draw z, M_hasChoice z, M_choice z, M_earlier z, M_cost z, M_hasRun z, M_answer z, M_bound z, M_clashes z, M_tried z, v, M_kept z)
def sM_kept (z : ModT) (v : Int32) : ModT := (M_cells z, M_costs z, M_states z, M_amounts z, M_hours z, M_borders z, M_apart z, M_hasGoal z, M_goalAbove z, M_goalBelow z, M_isFair z, M_fairAbove z, M_fairBelow z, M_weight z, M_least z, M_draw z, M_hasChoice z, M_choice z, M_earlier z, M_cost z, M_hasRun z, M_answer z, M_bound z, M_clashes z, M_tried z, M_triedCost z, v)
def xW (k : KT) (a : Nat → Nat) (S : SeaT) (T : TalT) (dr : Int64) (tr : Int64) (C : ChoT) (F : (Nat → Int32)) (G : GoT) : va_W := [(a 0, .inr (4, [.ref (a 1), .ref (a 11), .ref (a 14), .ref (a 15), .ref (a 16), .ref (a 17), .int (G_cellsBefore G), .int (G_runAnswer G), .long (G_toldBound G), .int (G_clashingKinds G)])),
  (a 1, .inr (2, [.ref (a 2), .ref (a 3), .ref (a 4), .ref (a 5), .ref (a 6), .ref (a 7), .ref (a 8), .ref (a 9), .ref (a 10), .long (S_fairAbove S), .long (S_fairBelow S), .long (S_borderWeight S), .int (S_cells S), .int (S_needed S), .int (S_barred S), .int (S_fewest S)])),
  (a 2, .inl (k.2.2.1, 24, .inr (.inl (S_costs S)))),
  (a 3, .inl (k.2.2.1, 192, .inr (.inl (S_amounts S)))),
  (a 4, .inl (k.2.2.1, 96, .inr (.inl (S_hours S)))),
  (a 5, .inl (k.2.2.1, 576, .inr (.inl (S_borders S)))),
  (a 6, .inl (k.2.1, 24, .inl (S_tooFar S))),
  (a 7, .inl (k.2.2.1, 8, .inr (.inl (S_kindTotals S)))),
  (a 8, .inl (k.2.2.1, 4, .inr (.inl (S_portTotals S)))),
  (a 9, .inl (k.2.2.1, 8, .inr (.inl (S_goalAbove S)))),
  (a 10, .inl (k.2.2.1, 8, .inr (.inl (S_goalBelow S)))),
  (a 11, .inr (3, [.ref (a 1), .ref (a 12), .ref (a 13), .int (T_cells T), .int (T_farPairs T), .long (T_cellCosts T), .long (T_borderLength T)])),
  (a 12, .inl (k.2.2.1, 8, .inr (.inl (T_amounts T)))),
  (a 13, .inl (k.2.2.1, 4, .inr (.inl (T_hours T)))),
  (a 14, .inr (1, [.long dr])),
  (a 15, .inr (1, [.long tr])),
  (a 16, .inr (0, [.int (C_there C), .int (C_cells C), .long (C_price C)])),
  (a 17, .inl (k.2.1, 24, .inl F))]
def mW (k : KT) (a : Nat → Nat) (M : ModT) : va_W := [(a 0, .inr (5, [.int (M_cells M), .ref (a 1), .ref (a 2), .ref (a 3), .ref (a 4), .ref (a 5), .ref (a 6), .ref (a 7), .ref (a 8), .ref (a 9), .int (M_isFair M), .long (M_fairAbove M), .long (M_fairBelow M), .long (M_weight M), .int (M_least M), .long (M_draw M), .int (M_hasChoice M), .int (M_choice M), .int (M_earlier M), .long (M_cost M), .int (M_hasRun M), .int (M_answer M), .long (M_bound M), .int (M_clashes M), .int (M_tried M), .long (M_triedCost M), .int (M_kept M)])),
  (a 1, .inl (k.2.2.1, 24, .inr (.inl (M_costs M)))),
  (a 2, .inl (k.2.1, 24, .inl (M_states M))),
  (a 3, .inl (k.2.2.1, 192, .inr (.inl (M_amounts M)))),
  (a 4, .inl (k.2.2.1, 96, .inr (.inl (M_hours M)))),
  (a 5, .inl (k.2.2.1, 576, .inr (.inl (M_borders M)))),
  (a 6, .inl (k.2.2.2, 576, .inl (M_apart M))),
  (a 7, .inl (k.2.2.2, 8, .inl (M_hasGoal M))),
  (a 8, .inl (k.2.2.1, 8, .inr (.inl (M_goalAbove M)))),
  (a 9, .inl (k.2.2.1, 8, .inr (.inl (M_goalBelow M))))]
def dW (k : KT) (a : Nat → Nat) (dr : Int64) : va_W := [(a 0, .inr (1, [.long dr]))]
theorem pz_x_0_6 (k : KT) (a : Nat → Nat) (S : SeaT) (T : TalT) (dr : Int64) (tr : Int64) (C : ChoT) (F : (Nat → Int32)) (G : GoT) (v : Int32) {H : Heap} (h : va_P k.1 vwCl ((xW k a S T dr tr C F G).set 0 (a 0, .inr (4, ([.ref (a 1), .ref (a 11), .ref (a 14), .ref (a 15), .ref (a 16), .ref (a 17), .int (G_cellsBefore G), .int (G_runAnswer G), .long (G_toldBound G), .int (G_clashingKinds G)] : List Value).set 6 (.int v)))) H) : va_P k.1 vwCl (xW k a S T dr tr C F (sG_cellsBefore G v)) H := h
theorem dz_x_0_6 (k : KT) (a : Nat → Nat) (S : SeaT) (T : TalT) (dr : Int64) (tr : Int64) (C : ChoT) (F : (Nat → Int32)) (G : GoT) (v : Int32) {A : Nat → Prop} (h : va_D A ((xW k a S T dr tr C F G).set 0 (a 0, .inr (4, ([.ref (a 1), .ref (a 11), .ref (a 14), .ref (a 15), .ref (a 16), .ref (a 17), .int (G_cellsBefore G), .int (G_runAnswer G), .long (G_toldBound G), .int (G_clashingKinds G)] : List Value).set 6 (.int v))))) : va_D A (xW k a S T dr tr C F (sG_cellsBefore G v)) := h
theorem pz_x_0_7 (k : KT) (a : Nat → Nat) (S : SeaT) (T : TalT) (dr : Int64) (tr : Int64) (C : ChoT) (F : (Nat → Int32)) (G : GoT) (v : Int32) {H : Heap} (h : va_P k.1 vwCl ((xW k a S T dr tr C F G).set 0 (a 0, .inr (4, ([.ref (a 1), .ref (a 11), .ref (a 14), .ref (a 15), .ref (a 16), .ref (a 17), .int (G_cellsBefore G), .int (G_runAnswer G), .long (G_toldBound G), .int (G_clashingKinds G)] : List Value).set 7 (.int v)))) H) : va_P k.1 vwCl (xW k a S T dr tr C F (sG_runAnswer G v)) H := h
theorem dz_x_0_7 (k : KT) (a : Nat → Nat) (S : SeaT) (T : TalT) (dr : Int64) (tr : Int64) (C : ChoT) (F : (Nat → Int32)) (G : GoT) (v : Int32) {A : Nat → Prop} (h : va_D A ((xW k a S T dr tr C F G).set 0 (a 0, .inr (4, ([.ref (a 1), .ref (a 11), .ref (a 14), .ref (a 15), .ref (a 16), .ref (a 17), .int (G_cellsBefore G), .int (G_runAnswer G), .long (G_toldBound G), .int (G_clashingKinds G)] : List Value).set 7 (.int v))))) : va_D A (xW k a S T dr tr C F (sG_runAnswer G v)) := h
theorem pz_x_0_8 (k : KT) (a : Nat → Nat) (S : SeaT) (T : TalT) (dr : Int64) (tr : Int64) (C : ChoT) (F : (Nat → Int32)) (G : GoT) (v : Int64) {H : Heap} (h : va_P k.1 vwCl ((xW k a S T dr tr C F G).set 0 (a 0, .inr (4, ([.ref (a 1), .ref (a 11), .ref (a 14), .ref (a 15), .ref (a 16), .ref (a 17), .int (G_cellsBefore G), .int (G_runAnswer G), .long (G_toldBound G), .int (G_clashingKinds G)] : List Value).set 8 (.long v)))) H) : va_P k.1 vwCl (xW k a S T dr tr C F (sG_toldBound G v)) H := h
theorem dz_x_0_8 (k : KT) (a : Nat → Nat) (S : SeaT) (T : TalT) (dr : Int64) (tr : Int64) (C : ChoT) (F : (Nat → Int32)) (G : GoT) (v : Int64) {A : Nat → Prop} (h : va_D A ((xW k a S T dr tr C F G).set 0 (a 0, .inr (4, ([.ref (a 1), .ref (a 11), .ref (a 14), .ref (a 15), .ref (a 16), .ref (a 17), .int (G_cellsBefore G), .int (G_runAnswer G), .long (G_toldBound G), .int (G_clashingKinds G)] : List Value).set 8 (.long v))))) : va_D A (xW k a S T dr tr C F (sG_toldBound G v)) := h
theorem pz_x_0_9 (k : KT) (a : Nat → Nat) (S : SeaT) (T : TalT) (dr : Int64) (tr : Int64) (C : ChoT) (F : (Nat → Int32)) (G : GoT) (v : Int32) {H : Heap} (h : va_P k.1 vwCl ((xW k a S T dr tr C F G).set 0 (a 0, .inr (4, ([.ref (a 1), .ref (a 11), .ref (a 14), .ref (a 15), .ref (a 16), .ref (a 17), .int (G_cellsBefore G), .int (G_runAnswer G), .long (G_toldBound G), .int (G_clashingKinds G)] : List Value).set 9 (.int v)))) H) : va_P k.1 vwCl (xW k a S T dr tr C F (sG_clashingKinds G v)) H := h
theorem dz_x_0_9 (k : KT) (a : Nat → Nat) (S : SeaT) (T : TalT) (dr : Int64) (tr : Int64) (C : ChoT) (F : (Nat → Int32)) (G : GoT) (v : Int32) {A : Nat → Prop} (h : va_D A ((xW k a S T dr tr C F G).set 0 (a 0, .inr (4, ([.ref (a 1), .ref (a 11), .ref (a 14), .ref (a 15), .ref (a 16), .ref (a 17), .int (G_cellsBefore G), .int (G_runAnswer G), .long (G_toldBound G), .int (G_clashingKinds G)] : List Value).set 9 (.int v))))) : va_D A (xW k a S T dr tr C F (sG_clashingKinds G v)) := h
theorem pz_x_1_9 (k : KT) (a : Nat → Nat) (S : SeaT) (T : TalT) (dr : Int64) (tr : Int64) (C : ChoT) (F : (Nat → Int32)) (G : GoT) (v : Int64) {H : Heap} (h : va_P k.1 vwCl ((xW k a S T dr tr C F G).set 1 (a 1, .inr (2, ([.ref (a 2), .ref (a 3), .ref (a 4), .ref (a 5), .ref (a 6), .ref (a 7), .ref (a 8), .ref (a 9), .ref (a 10), .long (S_fairAbove S), .long (S_fairBelow S), .long (S_borderWeight S), .int (S_cells S), .int (S_needed S), .int (S_barred S), .int (S_fewest S)] : List Value).set 9 (.long v)))) H) : va_P k.1 vwCl (xW k a (sS_fairAbove S v) T dr tr C F G) H := h
theorem dz_x_1_9 (k : KT) (a : Nat → Nat) (S : SeaT) (T : TalT) (dr : Int64) (tr : Int64) (C : ChoT) (F : (Nat → Int32)) (G : GoT) (v : Int64) {A : Nat → Prop} (h : va_D A ((xW k a S T dr tr C F G).set 1 (a 1, .inr (2, ([.ref (a 2), .ref (a 3), .ref (a 4), .ref (a 5), .ref (a 6), .ref (a 7), .ref (a 8), .ref (a 9), .ref (a 10), .long (S_fairAbove S), .long (S_fairBelow S), .long (S_borderWeight S), .int (S_cells S), .int (S_needed S), .int (S_barred S), .int (S_fewest S)] : List Value).set 9 (.long v))))) : va_D A (xW k a (sS_fairAbove S v) T dr tr C F G) := h
theorem pz_x_1_10 (k : KT) (a : Nat → Nat) (S : SeaT) (T : TalT) (dr : Int64) (tr : Int64) (C : ChoT) (F : (Nat → Int32)) (G : GoT) (v : Int64) {H : Heap} (h : va_P k.1 vwCl ((xW k a S T dr tr C F G).set 1 (a 1, .inr (2, ([.ref (a 2), .ref (a 3), .ref (a 4), .ref (a 5), .ref (a 6), .ref (a 7), .ref (a 8), .ref (a 9), .ref (a 10), .long (S_fairAbove S), .long (S_fairBelow S), .long (S_borderWeight S), .int (S_cells S), .int (S_needed S), .int (S_barred S), .int (S_fewest S)] : List Value).set 10 (.long v)))) H) : va_P k.1 vwCl (xW k a (sS_fairBelow S v) T dr tr C F G) H := h
theorem dz_x_1_10 (k : KT) (a : Nat → Nat) (S : SeaT) (T : TalT) (dr : Int64) (tr : Int64) (C : ChoT) (F : (Nat → Int32)) (G : GoT) (v : Int64) {A : Nat → Prop} (h : va_D A ((xW k a S T dr tr C F G).set 1 (a 1, .inr (2, ([.ref (a 2), .ref (a 3), .ref (a 4), .ref (a 5), .ref (a 6), .ref (a 7), .ref (a 8), .ref (a 9), .ref (a 10), .long (S_fairAbove S), .long (S_fairBelow S), .long (S_borderWeight S), .int (S_cells S), .int (S_needed S), .int (S_barred S), .int (S_fewest S)] : List Value).set 10 (.long v))))) : va_D A (xW k a (sS_fairBelow S v) T dr tr C F G) := h
theorem pz_x_1_11 (k : KT) (a : Nat → Nat) (S : SeaT) (T : TalT) (dr : Int64) (tr : Int64) (C : ChoT) (F : (Nat → Int32)) (G : GoT) (v : Int64) {H : Heap} (h : va_P k.1 vwCl ((xW k a S T dr tr C F G).set 1 (a 1, .inr (2, ([.ref (a 2), .ref (a 3), .ref (a 4), .ref (a 5), .ref (a 6), .ref (a 7), .ref (a 8), .ref (a 9), .ref (a 10), .long (S_fairAbove S), .long (S_fairBelow S), .long (S_borderWeight S), .int (S_cells S), .int (S_needed S), .int (S_barred S), .int (S_fewest S)] : List Value).set 11 (.long v)))) H) : va_P k.1 vwCl (xW k a (sS_borderWeight S v) T dr tr C F G) H := h
theorem dz_x_1_11 (k : KT) (a : Nat → Nat) (S : SeaT) (T : TalT) (dr : Int64) (tr : Int64) (C : ChoT) (F : (Nat → Int32)) (G : GoT) (v : Int64) {A : Nat → Prop} (h : va_D A ((xW k a S T dr tr C F G).set 1 (a 1, .inr (2, ([.ref (a 2), .ref (a 3), .ref (a 4), .ref (a 5), .ref (a 6), .ref (a 7), .ref (a 8), .ref (a 9), .ref (a 10), .long (S_fairAbove S), .long (S_fairBelow S), .long (S_borderWeight S), .int (S_cells S), .int (S_needed S), .int (S_barred S), .int (S_fewest S)] : List Value).set 11 (.long v))))) : va_D A (xW k a (sS_borderWeight S v) T dr tr C F G) := h
theorem pz_x_1_12 (k : KT) (a : Nat → Nat) (S : SeaT) (T : TalT) (dr : Int64) (tr : Int64) (C : ChoT) (F : (Nat → Int32)) (G : GoT) (v : Int32) {H : Heap} (h : va_P k.1 vwCl ((xW k a S T dr tr C F G).set 1 (a 1, .inr (2, ([.ref (a 2), .ref (a 3), .ref (a 4), .ref (a 5), .ref (a 6), .ref (a 7), .ref (a 8), .ref (a 9), .ref (a 10), .long (S_fairAbove S), .long (S_fairBelow S), .long (S_borderWeight S), .int (S_cells S), .int (S_needed S), .int (S_barred S), .int (S_fewest S)] : List Value).set 12 (.int v)))) H) : va_P k.1 vwCl (xW k a (sS_cells S v) T dr tr C F G) H := h
theorem dz_x_1_12 (k : KT) (a : Nat → Nat) (S : SeaT) (T : TalT) (dr : Int64) (tr : Int64) (C : ChoT) (F : (Nat → Int32)) (G : GoT) (v : Int32) {A : Nat → Prop} (h : va_D A ((xW k a S T dr tr C F G).set 1 (a 1, .inr (2, ([.ref (a 2), .ref (a 3), .ref (a 4), .ref (a 5), .ref (a 6), .ref (a 7), .ref (a 8), .ref (a 9), .ref (a 10), .long (S_fairAbove S), .long (S_fairBelow S), .long (S_borderWeight S), .int (S_cells S), .int (S_needed S), .int (S_barred S), .int (S_fewest S)] : List Value).set 12 (.int v))))) : va_D A (xW k a (sS_cells S v) T dr tr C F G) := h
theorem pz_x_1_13 (k : KT) (a : Nat → Nat) (S : SeaT) (T : TalT) (dr : Int64) (tr : Int64) (C : ChoT) (F : (Nat → Int32)) (G : GoT) (v : Int32) {H : Heap} (h : va_P k.1 vwCl ((xW k a S T dr tr C F G).set 1 (a 1, .inr (2, ([.ref (a 2), .ref (a 3), .ref (a 4), .ref (a 5), .ref (a 6), .ref (a 7), .ref (a 8), .ref (a 9), .ref (a 10), .long (S_fairAbove S), .long (S_fairBelow S), .long (S_borderWeight S), .int (S_cells S), .int (S_needed S), .int (S_barred S), .int (S_fewest S)] : List Value).set 13 (.int v)))) H) : va_P k.1 vwCl (xW k a (sS_needed S v) T dr tr C F G) H := h
theorem dz_x_1_13 (k : KT) (a : Nat → Nat) (S : SeaT) (T : TalT) (dr : Int64) (tr : Int64) (C : ChoT) (F : (Nat → Int32)) (G : GoT) (v : Int32) {A : Nat → Prop} (h : va_D A ((xW k a S T dr tr C F G).set 1 (a 1, .inr (2, ([.ref (a 2), .ref (a 3), .ref (a 4), .ref (a 5), .ref (a 6), .ref (a 7), .ref (a 8), .ref (a 9), .ref (a 10), .long (S_fairAbove S), .long (S_fairBelow S), .long (S_borderWeight S), .int (S_cells S), .int (S_needed S), .int (S_barred S), .int (S_fewest S)] : List Value).set 13 (.int v))))) : va_D A (xW k a (sS_needed S v) T dr tr C F G) := h
theorem pz_x_1_14 (k : KT) (a : Nat → Nat) (S : SeaT) (T : TalT) (dr : Int64) (tr : Int64) (C : ChoT) (F : (Nat → Int32)) (G : GoT) (v : Int32) {H : Heap} (h : va_P k.1 vwCl ((xW k a S T dr tr C F G).set 1 (a 1, .inr (2, ([.ref (a 2), .ref (a 3), .ref (a 4), .ref (a 5), .ref (a 6), .ref (a 7), .ref (a 8), .ref (a 9), .ref (a 10), .long (S_fairAbove S), .long (S_fairBelow S), .long (S_borderWeight S), .int (S_cells S), .int (S_needed S), .int (S_barred S), .int (S_fewest S)] : List Value).set 14 (.int v)))) H) : va_P k.1 vwCl (xW k a (sS_barred S v) T dr tr C F G) H := h
theorem dz_x_1_14 (k : KT) (a : Nat → Nat) (S : SeaT) (T : TalT) (dr : Int64) (tr : Int64) (C : ChoT) (F : (Nat → Int32)) (G : GoT) (v : Int32) {A : Nat → Prop} (h : va_D A ((xW k a S T dr tr C F G).set 1 (a 1, .inr (2, ([.ref (a 2), .ref (a 3), .ref (a 4), .ref (a 5), .ref (a 6), .ref (a 7), .ref (a 8), .ref (a 9), .ref (a 10), .long (S_fairAbove S), .long (S_fairBelow S), .long (S_borderWeight S), .int (S_cells S), .int (S_needed S), .int (S_barred S), .int (S_fewest S)] : List Value).set 14 (.int v))))) : va_D A (xW k a (sS_barred S v) T dr tr C F G) := h
theorem pz_x_1_15 (k : KT) (a : Nat → Nat) (S : SeaT) (T : TalT) (dr : Int64) (tr : Int64) (C : ChoT) (F : (Nat → Int32)) (G : GoT) (v : Int32) {H : Heap} (h : va_P k.1 vwCl ((xW k a S T dr tr C F G).set 1 (a 1, .inr (2, ([.ref (a 2), .ref (a 3), .ref (a 4), .ref (a 5), .ref (a 6), .ref (a 7), .ref (a 8), .ref (a 9), .ref (a 10), .long (S_fairAbove S), .long (S_fairBelow S), .long (S_borderWeight S), .int (S_cells S), .int (S_needed S), .int (S_barred S), .int (S_fewest S)] : List Value).set 15 (.int v)))) H) : va_P k.1 vwCl (xW k a (sS_fewest S v) T dr tr C F G) H := h
theorem dz_x_1_15 (k : KT) (a : Nat → Nat) (S : SeaT) (T : TalT) (dr : Int64) (tr : Int64) (C : ChoT) (F : (Nat → Int32)) (G : GoT) (v : Int32) {A : Nat → Prop} (h : va_D A ((xW k a S T dr tr C F G).set 1 (a 1, .inr (2, ([.ref (a 2), .ref (a 3), .ref (a 4), .ref (a 5), .ref (a 6), .ref (a 7), .ref (a 8), .ref (a 9), .ref (a 10), .long (S_fairAbove S), .long (S_fairBelow S), .long (S_borderWeight S), .int (S_cells S), .int (S_needed S), .int (S_barred S), .int (S_fewest S)] : List Value).set 15 (.int v))))) : va_D A (xW k a (sS_fewest S v) T dr tr C F G) := h
theorem pz_x_2 (k : KT) (a : Nat → Nat) (S : SeaT) (T : TalT) (dr : Int64) (tr : Int64) (C : ChoT) (F : (Nat → Int32)) (G : GoT) (v : Nat → Int64) {H : Heap} (h : va_P k.1 vwCl ((xW k a S T dr tr C F G).set 2 (a 2, .inl (k.2.2.1, 24, .inr (.inl v)))) H) : va_P k.1 vwCl (xW k a (sS_costs S v) T dr tr C F G) H := h
theorem dz_x_2 (k : KT) (a : Nat → Nat) (S : SeaT) (T : TalT) (dr : Int64) (tr : Int64) (C : ChoT) (F : (Nat → Int32)) (G : GoT) (v : Nat → Int64) {A : Nat → Prop} (h : va_D A ((xW k a S T dr tr C F G).set 2 (a 2, .inl (k.2.2.1, 24, .inr (.inl v))))) : va_D A (xW k a (sS_costs S v) T dr tr C F G) := h
theorem pz_x_3 (k : KT) (a : Nat → Nat) (S : SeaT) (T : TalT) (dr : Int64) (tr : Int64) (C : ChoT) (F : (Nat → Int32)) (G : GoT) (v : Nat → Int64) {H : Heap} (h : va_P k.1 vwCl ((xW k a S T dr tr C F G).set 3 (a 3, .inl (k.2.2.1, 192, .inr (.inl v)))) H) : va_P k.1 vwCl (xW k a (sS_amounts S v) T dr tr C F G) H := h
theorem dz_x_3 (k : KT) (a : Nat → Nat) (S : SeaT) (T : TalT) (dr : Int64) (tr : Int64) (C : ChoT) (F : (Nat → Int32)) (G : GoT) (v : Nat → Int64) {A : Nat → Prop} (h : va_D A ((xW k a S T dr tr C F G).set 3 (a 3, .inl (k.2.2.1, 192, .inr (.inl v))))) : va_D A (xW k a (sS_amounts S v) T dr tr C F G) := h
theorem pz_x_4 (k : KT) (a : Nat → Nat) (S : SeaT) (T : TalT) (dr : Int64) (tr : Int64) (C : ChoT) (F : (Nat → Int32)) (G : GoT) (v : Nat → Int64) {H : Heap} (h : va_P k.1 vwCl ((xW k a S T dr tr C F G).set 4 (a 4, .inl (k.2.2.1, 96, .inr (.inl v)))) H) : va_P k.1 vwCl (xW k a (sS_hours S v) T dr tr C F G) H := h
theorem dz_x_4 (k : KT) (a : Nat → Nat) (S : SeaT) (T : TalT) (dr : Int64) (tr : Int64) (C : ChoT) (F : (Nat → Int32)) (G : GoT) (v : Nat → Int64) {A : Nat → Prop} (h : va_D A ((xW k a S T dr tr C F G).set 4 (a 4, .inl (k.2.2.1, 96, .inr (.inl v))))) : va_D A (xW k a (sS_hours S v) T dr tr C F G) := h
theorem pz_x_5 (k : KT) (a : Nat → Nat) (S : SeaT) (T : TalT) (dr : Int64) (tr : Int64) (C : ChoT) (F : (Nat → Int32)) (G : GoT) (v : Nat → Int64) {H : Heap} (h : va_P k.1 vwCl ((xW k a S T dr tr C F G).set 5 (a 5, .inl (k.2.2.1, 576, .inr (.inl v)))) H) : va_P k.1 vwCl (xW k a (sS_borders S v) T dr tr C F G) H := h
theorem dz_x_5 (k : KT) (a : Nat → Nat) (S : SeaT) (T : TalT) (dr : Int64) (tr : Int64) (C : ChoT) (F : (Nat → Int32)) (G : GoT) (v : Nat → Int64) {A : Nat → Prop} (h : va_D A ((xW k a S T dr tr C F G).set 5 (a 5, .inl (k.2.2.1, 576, .inr (.inl v))))) : va_D A (xW k a (sS_borders S v) T dr tr C F G) := h
theorem pz_x_6 (k : KT) (a : Nat → Nat) (S : SeaT) (T : TalT) (dr : Int64) (tr : Int64) (C : ChoT) (F : (Nat → Int32)) (G : GoT) (v : Nat → Int32) {H : Heap} (h : va_P k.1 vwCl ((xW k a S T dr tr C F G).set 6 (a 6, .inl (k.2.1, 24, .inl v))) H) : va_P k.1 vwCl (xW k a (sS_tooFar S v) T dr tr C F G) H := h
theorem dz_x_6 (k : KT) (a : Nat → Nat) (S : SeaT) (T : TalT) (dr : Int64) (tr : Int64) (C : ChoT) (F : (Nat → Int32)) (G : GoT) (v : Nat → Int32) {A : Nat → Prop} (h : va_D A ((xW k a S T dr tr C F G).set 6 (a 6, .inl (k.2.1, 24, .inl v)))) : va_D A (xW k a (sS_tooFar S v) T dr tr C F G) := h
theorem pz_x_7 (k : KT) (a : Nat → Nat) (S : SeaT) (T : TalT) (dr : Int64) (tr : Int64) (C : ChoT) (F : (Nat → Int32)) (G : GoT) (v : Nat → Int64) {H : Heap} (h : va_P k.1 vwCl ((xW k a S T dr tr C F G).set 7 (a 7, .inl (k.2.2.1, 8, .inr (.inl v)))) H) : va_P k.1 vwCl (xW k a (sS_kindTotals S v) T dr tr C F G) H := h
theorem dz_x_7 (k : KT) (a : Nat → Nat) (S : SeaT) (T : TalT) (dr : Int64) (tr : Int64) (C : ChoT) (F : (Nat → Int32)) (G : GoT) (v : Nat → Int64) {A : Nat → Prop} (h : va_D A ((xW k a S T dr tr C F G).set 7 (a 7, .inl (k.2.2.1, 8, .inr (.inl v))))) : va_D A (xW k a (sS_kindTotals S v) T dr tr C F G) := h
theorem pz_x_8 (k : KT) (a : Nat → Nat) (S : SeaT) (T : TalT) (dr : Int64) (tr : Int64) (C : ChoT) (F : (Nat → Int32)) (G : GoT) (v : Nat → Int64) {H : Heap} (h : va_P k.1 vwCl ((xW k a S T dr tr C F G).set 8 (a 8, .inl (k.2.2.1, 4, .inr (.inl v)))) H) : va_P k.1 vwCl (xW k a (sS_portTotals S v) T dr tr C F G) H := h
theorem dz_x_8 (k : KT) (a : Nat → Nat) (S : SeaT) (T : TalT) (dr : Int64) (tr : Int64) (C : ChoT) (F : (Nat → Int32)) (G : GoT) (v : Nat → Int64) {A : Nat → Prop} (h : va_D A ((xW k a S T dr tr C F G).set 8 (a 8, .inl (k.2.2.1, 4, .inr (.inl v))))) : va_D A (xW k a (sS_portTotals S v) T dr tr C F G) := h
theorem pz_x_9 (k : KT) (a : Nat → Nat) (S : SeaT) (T : TalT) (dr : Int64) (tr : Int64) (C : ChoT) (F : (Nat → Int32)) (G : GoT) (v : Nat → Int64) {H : Heap} (h : va_P k.1 vwCl ((xW k a S T dr tr C F G).set 9 (a 9, .inl (k.2.2.1, 8, .inr (.inl v)))) H) : va_P k.1 vwCl (xW k a (sS_goalAbove S v) T dr tr C F G) H := h
theorem dz_x_9 (k : KT) (a : Nat → Nat) (S : SeaT) (T : TalT) (dr : Int64) (tr : Int64) (C : ChoT) (F : (Nat → Int32)) (G : GoT) (v : Nat → Int64) {A : Nat → Prop} (h : va_D A ((xW k a S T dr tr C F G).set 9 (a 9, .inl (k.2.2.1, 8, .inr (.inl v))))) : va_D A (xW k a (sS_goalAbove S v) T dr tr C F G) := h
theorem pz_x_10 (k : KT) (a : Nat → Nat) (S : SeaT) (T : TalT) (dr : Int64) (tr : Int64) (C : ChoT) (F : (Nat → Int32)) (G : GoT) (v : Nat → Int64) {H : Heap} (h : va_P k.1 vwCl ((xW k a S T dr tr C F G).set 10 (a 10, .inl (k.2.2.1, 8, .inr (.inl v)))) H) : va_P k.1 vwCl (xW k a (sS_goalBelow S v) T dr tr C F G) H := h
theorem dz_x_10 (k : KT) (a : Nat → Nat) (S : SeaT) (T : TalT) (dr : Int64) (tr : Int64) (C : ChoT) (F : (Nat → Int32)) (G : GoT) (v : Nat → Int64) {A : Nat → Prop} (h : va_D A ((xW k a S T dr tr C F G).set 10 (a 10, .inl (k.2.2.1, 8, .inr (.inl v))))) : va_D A (xW k a (sS_goalBelow S v) T dr tr C F G) := h
theorem pz_x_11_3 (k : KT) (a : Nat → Nat) (S : SeaT) (T : TalT) (dr : Int64) (tr : Int64) (C : ChoT) (F : (Nat → Int32)) (G : GoT) (v : Int32) {H : Heap} (h : va_P k.1 vwCl ((xW k a S T dr tr C F G).set 11 (a 11, .inr (3, ([.ref (a 1), .ref (a 12), .ref (a 13), .int (T_cells T), .int (T_farPairs T), .long (T_cellCosts T), .long (T_borderLength T)] : List Value).set 3 (.int v)))) H) : va_P k.1 vwCl (xW k a S (sT_cells T v) dr tr C F G) H := h
theorem dz_x_11_3 (k : KT) (a : Nat → Nat) (S : SeaT) (T : TalT) (dr : Int64) (tr : Int64) (C : ChoT) (F : (Nat → Int32)) (G : GoT) (v : Int32) {A : Nat → Prop} (h : va_D A ((xW k a S T dr tr C F G).set 11 (a 11, .inr (3, ([.ref (a 1), .ref (a 12), .ref (a 13), .int (T_cells T), .int (T_farPairs T), .long (T_cellCosts T), .long (T_borderLength T)] : List Value).set 3 (.int v))))) : va_D A (xW k a S (sT_cells T v) dr tr C F G) := h
theorem pz_x_11_4 (k : KT) (a : Nat → Nat) (S : SeaT) (T : TalT) (dr : Int64) (tr : Int64) (C : ChoT) (F : (Nat → Int32)) (G : GoT) (v : Int32) {H : Heap} (h : va_P k.1 vwCl ((xW k a S T dr tr C F G).set 11 (a 11, .inr (3, ([.ref (a 1), .ref (a 12), .ref (a 13), .int (T_cells T), .int (T_farPairs T), .long (T_cellCosts T), .long (T_borderLength T)] : List Value).set 4 (.int v)))) H) : va_P k.1 vwCl (xW k a S (sT_farPairs T v) dr tr C F G) H := h
theorem dz_x_11_4 (k : KT) (a : Nat → Nat) (S : SeaT) (T : TalT) (dr : Int64) (tr : Int64) (C : ChoT) (F : (Nat → Int32)) (G : GoT) (v : Int32) {A : Nat → Prop} (h : va_D A ((xW k a S T dr tr C F G).set 11 (a 11, .inr (3, ([.ref (a 1), .ref (a 12), .ref (a 13), .int (T_cells T), .int (T_farPairs T), .long (T_cellCosts T), .long (T_borderLength T)] : List Value).set 4 (.int v))))) : va_D A (xW k a S (sT_farPairs T v) dr tr C F G) := h
theorem pz_x_11_5 (k : KT) (a : Nat → Nat) (S : SeaT) (T : TalT) (dr : Int64) (tr : Int64) (C : ChoT) (F : (Nat → Int32)) (G : GoT) (v : Int64) {H : Heap} (h : va_P k.1 vwCl ((xW k a S T dr tr C F G).set 11 (a 11, .inr (3, ([.ref (a 1), .ref (a 12), .ref (a 13), .int (T_cells T), .int (T_farPairs T), .long (T_cellCosts T), .long (T_borderLength T)] : List Value).set 5 (.long v)))) H) : va_P k.1 vwCl (xW k a S (sT_cellCosts T v) dr tr C F G) H := h
theorem dz_x_11_5 (k : KT) (a : Nat → Nat) (S : SeaT) (T : TalT) (dr : Int64) (tr : Int64) (C : ChoT) (F : (Nat → Int32)) (G : GoT) (v : Int64) {A : Nat → Prop} (h : va_D A ((xW k a S T dr tr C F G).set 11 (a 11, .inr (3, ([.ref (a 1), .ref (a 12), .ref (a 13), .int (T_cells T), .int (T_farPairs T), .long (T_cellCosts T), .long (T_borderLength T)] : List Value).set 5 (.long v))))) : va_D A (xW k a S (sT_cellCosts T v) dr tr C F G) := h
theorem pz_x_11_6 (k : KT) (a : Nat → Nat) (S : SeaT) (T : TalT) (dr : Int64) (tr : Int64) (C : ChoT) (F : (Nat → Int32)) (G : GoT) (v : Int64) {H : Heap} (h : va_P k.1 vwCl ((xW k a S T dr tr C F G).set 11 (a 11, .inr (3, ([.ref (a 1), .ref (a 12), .ref (a 13), .int (T_cells T), .int (T_farPairs T), .long (T_cellCosts T), .long (T_borderLength T)] : List Value).set 6 (.long v)))) H) : va_P k.1 vwCl (xW k a S (sT_borderLength T v) dr tr C F G) H := h
theorem dz_x_11_6 (k : KT) (a : Nat → Nat) (S : SeaT) (T : TalT) (dr : Int64) (tr : Int64) (C : ChoT) (F : (Nat → Int32)) (G : GoT) (v : Int64) {A : Nat → Prop} (h : va_D A ((xW k a S T dr tr C F G).set 11 (a 11, .inr (3, ([.ref (a 1), .ref (a 12), .ref (a 13), .int (T_cells T), .int (T_farPairs T), .long (T_cellCosts T), .long (T_borderLength T)] : List Value).set 6 (.long v))))) : va_D A (xW k a S (sT_borderLength T v) dr tr C F G) := h
theorem pz_x_12 (k : KT) (a : Nat → Nat) (S : SeaT) (T : TalT) (dr : Int64) (tr : Int64) (C : ChoT) (F : (Nat → Int32)) (G : GoT) (v : Nat → Int64) {H : Heap} (h : va_P k.1 vwCl ((xW k a S T dr tr C F G).set 12 (a 12, .inl (k.2.2.1, 8, .inr (.inl v)))) H) : va_P k.1 vwCl (xW k a S (sT_amounts T v) dr tr C F G) H := h
theorem dz_x_12 (k : KT) (a : Nat → Nat) (S : SeaT) (T : TalT) (dr : Int64) (tr : Int64) (C : ChoT) (F : (Nat → Int32)) (G : GoT) (v : Nat → Int64) {A : Nat → Prop} (h : va_D A ((xW k a S T dr tr C F G).set 12 (a 12, .inl (k.2.2.1, 8, .inr (.inl v))))) : va_D A (xW k a S (sT_amounts T v) dr tr C F G) := h
theorem pz_x_13 (k : KT) (a : Nat → Nat) (S : SeaT) (T : TalT) (dr : Int64) (tr : Int64) (C : ChoT) (F : (Nat → Int32)) (G : GoT) (v : Nat → Int64) {H : Heap} (h : va_P k.1 vwCl ((xW k a S T dr tr C F G).set 13 (a 13, .inl (k.2.2.1, 4, .inr (.inl v)))) H) : va_P k.1 vwCl (xW k a S (sT_hours T v) dr tr C F G) H := h
theorem dz_x_13 (k : KT) (a : Nat → Nat) (S : SeaT) (T : TalT) (dr : Int64) (tr : Int64) (C : ChoT) (F : (Nat → Int32)) (G : GoT) (v : Nat → Int64) {A : Nat → Prop} (h : va_D A ((xW k a S T dr tr C F G).set 13 (a 13, .inl (k.2.2.1, 4, .inr (.inl v))))) : va_D A (xW k a S (sT_hours T v) dr tr C F G) := h
theorem pz_x_14_0 (k : KT) (a : Nat → Nat) (S : SeaT) (T : TalT) (dr : Int64) (tr : Int64) (C : ChoT) (F : (Nat → Int32)) (G : GoT) (v : Int64) {H : Heap} (h : va_P k.1 vwCl ((xW k a S T dr tr C F G).set 14 (a 14, .inr (1, ([.long dr] : List Value).set 0 (.long v)))) H) : va_P k.1 vwCl (xW k a S T v tr C F G) H := h
theorem dz_x_14_0 (k : KT) (a : Nat → Nat) (S : SeaT) (T : TalT) (dr : Int64) (tr : Int64) (C : ChoT) (F : (Nat → Int32)) (G : GoT) (v : Int64) {A : Nat → Prop} (h : va_D A ((xW k a S T dr tr C F G).set 14 (a 14, .inr (1, ([.long dr] : List Value).set 0 (.long v))))) : va_D A (xW k a S T v tr C F G) := h
theorem pz_x_15_0 (k : KT) (a : Nat → Nat) (S : SeaT) (T : TalT) (dr : Int64) (tr : Int64) (C : ChoT) (F : (Nat → Int32)) (G : GoT) (v : Int64) {H : Heap} (h : va_P k.1 vwCl ((xW k a S T dr tr C F G).set 15 (a 15, .inr (1, ([.long tr] : List Value).set 0 (.long v)))) H) : va_P k.1 vwCl (xW k a S T dr v C F G) H := h
theorem dz_x_15_0 (k : KT) (a : Nat → Nat) (S : SeaT) (T : TalT) (dr : Int64) (tr : Int64) (C : ChoT) (F : (Nat → Int32)) (G : GoT) (v : Int64) {A : Nat → Prop} (h : va_D A ((xW k a S T dr tr C F G).set 15 (a 15, .inr (1, ([.long tr] : List Value).set 0 (.long v))))) : va_D A (xW k a S T dr v C F G) := h
theorem pz_x_16_0 (k : KT) (a : Nat → Nat) (S : SeaT) (T : TalT) (dr : Int64) (tr : Int64) (C : ChoT) (F : (Nat → Int32)) (G : GoT) (v : Int32) {H : Heap} (h : va_P k.1 vwCl ((xW k a S T dr tr C F G).set 16 (a 16, .inr (0, ([.int (C_there C), .int (C_cells C), .long (C_price C)] : List Value).set 0 (.int v)))) H) : va_P k.1 vwCl (xW k a S T dr tr (sC_there C v) F G) H := h
theorem dz_x_16_0 (k : KT) (a : Nat → Nat) (S : SeaT) (T : TalT) (dr : Int64) (tr : Int64) (C : ChoT) (F : (Nat → Int32)) (G : GoT) (v : Int32) {A : Nat → Prop} (h : va_D A ((xW k a S T dr tr C F G).set 16 (a 16, .inr (0, ([.int (C_there C), .int (C_cells C), .long (C_price C)] : List Value).set 0 (.int v))))) : va_D A (xW k a S T dr tr (sC_there C v) F G) := h
theorem pz_x_16_1 (k : KT) (a : Nat → Nat) (S : SeaT) (T : TalT) (dr : Int64) (tr : Int64) (C : ChoT) (F : (Nat → Int32)) (G : GoT) (v : Int32) {H : Heap} (h : va_P k.1 vwCl ((xW k a S T dr tr C F G).set 16 (a 16, .inr (0, ([.int (C_there C), .int (C_cells C), .long (C_price C)] : List Value).set 1 (.int v)))) H) : va_P k.1 vwCl (xW k a S T dr tr (sC_cells C v) F G) H := h
theorem dz_x_16_1 (k : KT) (a : Nat → Nat) (S : SeaT) (T : TalT) (dr : Int64) (tr : Int64) (C : ChoT) (F : (Nat → Int32)) (G : GoT) (v : Int32) {A : Nat → Prop} (h : va_D A ((xW k a S T dr tr C F G).set 16 (a 16, .inr (0, ([.int (C_there C), .int (C_cells C), .long (C_price C)] : List Value).set 1 (.int v))))) : va_D A (xW k a S T dr tr (sC_cells C v) F G) := h
theorem pz_x_16_2 (k : KT) (a : Nat → Nat) (S : SeaT) (T : TalT) (dr : Int64) (tr : Int64) (C : ChoT) (F : (Nat → Int32)) (G : GoT) (v : Int64) {H : Heap} (h : va_P k.1 vwCl ((xW k a S T dr tr C F G).set 16 (a 16, .inr (0, ([.int (C_there C), .int (C_cells C), .long (C_price C)] : List Value).set 2 (.long v)))) H) : va_P k.1 vwCl (xW k a S T dr tr (sC_price C v) F G) H := h
theorem dz_x_16_2 (k : KT) (a : Nat → Nat) (S : SeaT) (T : TalT) (dr : Int64) (tr : Int64) (C : ChoT) (F : (Nat → Int32)) (G : GoT) (v : Int64) {A : Nat → Prop} (h : va_D A ((xW k a S T dr tr C F G).set 16 (a 16, .inr (0, ([.int (C_there C), .int (C_cells C), .long (C_price C)] : List Value).set 2 (.long v))))) : va_D A (xW k a S T dr tr (sC_price C v) F G) := h
theorem pz_x_17 (k : KT) (a : Nat → Nat) (S : SeaT) (T : TalT) (dr : Int64) (tr : Int64) (C : ChoT) (F : (Nat → Int32)) (G : GoT) (v : Nat → Int32) {H : Heap} (h : va_P k.1 vwCl ((xW k a S T dr tr C F G).set 17 (a 17, .inl (k.2.1, 24, .inl v))) H) : va_P k.1 vwCl (xW k a S T dr tr C v G) H := h
theorem dz_x_17 (k : KT) (a : Nat → Nat) (S : SeaT) (T : TalT) (dr : Int64) (tr : Int64) (C : ChoT) (F : (Nat → Int32)) (G : GoT) (v : Nat → Int32) {A : Nat → Prop} (h : va_D A ((xW k a S T dr tr C F G).set 17 (a 17, .inl (k.2.1, 24, .inl v)))) : va_D A (xW k a S T dr tr C v G) := h
theorem pz_m_0_0 (k : KT) (a : Nat → Nat) (M : ModT) (v : Int32) {H : Heap} (h : va_P k.1 vwCl ((mW k a M).set 0 (a 0, .inr (5, ([.int (M_cells M), .ref (a 1), .ref (a 2), .ref (a 3), .ref (a 4), .ref (a 5), .ref (a 6), .ref (a 7), .ref (a 8), .ref (a 9), .int (M_isFair M), .long (M_fairAbove M), .long (M_fairBelow M), .long (M_weight M), .int (M_least M), .long (M_draw M), .int (M_hasChoice M), .int (M_choice M), .int (M_earlier M), .long (M_cost M), .int (M_hasRun M), .int (M_answer M), .long (M_bound M), .int (M_clashes M), .int (M_tried M), .long (M_triedCost M), .int (M_kept M)] : List Value).set 0 (.int v)))) H) : va_P k.1 vwCl (mW k a (sM_cells M v)) H := h
theorem dz_m_0_0 (k : KT) (a : Nat → Nat) (M : ModT) (v : Int32) {A : Nat → Prop} (h : va_D A ((mW k a M).set 0 (a 0, .inr (5, ([.int (M_cells M), .ref (a 1), .ref (a 2), .ref (a 3), .ref (a 4), .ref (a 5), .ref (a 6), .ref (a 7), .ref (a 8), .ref (a 9), .int (M_isFair M), .long (M_fairAbove M), .long (M_fairBelow M), .long (M_weight M), .int (M_least M), .long (M_draw M), .int (M_hasChoice M), .int (M_choice M), .int (M_earlier M), .long (M_cost M), .int (M_hasRun M), .int (M_answer M), .long (M_bound M), .int (M_clashes M), .int (M_tried M), .long (M_triedCost M), .int (M_kept M)] : List Value).set 0 (.int v))))) : va_D A (mW k a (sM_cells M v)) := h
theorem pz_m_0_10 (k : KT) (a : Nat → Nat) (M : ModT) (v : Int32) {H : Heap} (h : va_P k.1 vwCl ((mW k a M).set 0 (a 0, .inr (5, ([.int (M_cells M), .ref (a 1), .ref (a 2), .ref (a 3), .ref (a 4), .ref (a 5), .ref (a 6), .ref (a 7), .ref (a 8), .ref (a 9), .int (M_isFair M), .long (M_fairAbove M), .long (M_fairBelow M), .long (M_weight M), .int (M_least M), .long (M_draw M), .int (M_hasChoice M), .int (M_choice M), .int (M_earlier M), .long (M_cost M), .int (M_hasRun M), .int (M_answer M), .long (M_bound M), .int (M_clashes M), .int (M_tried M), .long (M_triedCost M), .int (M_kept M)] : List Value).set 10 (.int v)))) H) : va_P k.1 vwCl (mW k a (sM_isFair M v)) H := h
theorem dz_m_0_10 (k : KT) (a : Nat → Nat) (M : ModT) (v : Int32) {A : Nat → Prop} (h : va_D A ((mW k a M).set 0 (a 0, .inr (5, ([.int (M_cells M), .ref (a 1), .ref (a 2), .ref (a 3), .ref (a 4), .ref (a 5), .ref (a 6), .ref (a 7), .ref (a 8), .ref (a 9), .int (M_isFair M), .long (M_fairAbove M), .long (M_fairBelow M), .long (M_weight M), .int (M_least M), .long (M_draw M), .int (M_hasChoice M), .int (M_choice M), .int (M_earlier M), .long (M_cost M), .int (M_hasRun M), .int (M_answer M), .long (M_bound M), .int (M_clashes M), .int (M_tried M), .long (M_triedCost M), .int (M_kept M)] : List Value).set 10 (.int v))))) : va_D A (mW k a (sM_isFair M v)) := h
theorem pz_m_0_11 (k : KT) (a : Nat → Nat) (M : ModT) (v : Int64) {H : Heap} (h : va_P k.1 vwCl ((mW k a M).set 0 (a 0, .inr (5, ([.int (M_cells M), .ref (a 1), .ref (a 2), .ref (a 3), .ref (a 4), .ref (a 5), .ref (a 6), .ref (a 7), .ref (a 8), .ref (a 9), .int (M_isFair M), .long (M_fairAbove M), .long (M_fairBelow M), .long (M_weight M), .int (M_least M), .long (M_draw M), .int (M_hasChoice M), .int (M_choice M), .int (M_earlier M), .long (M_cost M), .int (M_hasRun M), .int (M_answer M), .long (M_bound M), .int (M_clashes M), .int (M_tried M), .long (M_triedCost M), .int (M_kept M)] : List Value).set 11 (.long v)))) H) : va_P k.1 vwCl (mW k a (sM_fairAbove M v)) H := h
theorem dz_m_0_11 (k : KT) (a : Nat → Nat) (M : ModT) (v : Int64) {A : Nat → Prop} (h : va_D A ((mW k a M).set 0 (a 0, .inr (5, ([.int (M_cells M), .ref (a 1), .ref (a 2), .ref (a 3), .ref (a 4), .ref (a 5), .ref (a 6), .ref (a 7), .ref (a 8), .ref (a 9), .int (M_isFair M), .long (M_fairAbove M), .long (M_fairBelow M), .long (M_weight M), .int (M_least M), .long (M_draw M), .int (M_hasChoice M), .int (M_choice M), .int (M_earlier M), .long (M_cost M), .int (M_hasRun M), .int (M_answer M), .long (M_bound M), .int (M_clashes M), .int (M_tried M), .long (M_triedCost M), .int (M_kept M)] : List Value).set 11 (.long v))))) : va_D A (mW k a (sM_fairAbove M v)) := h
theorem pz_m_0_12 (k : KT) (a : Nat → Nat) (M : ModT) (v : Int64) {H : Heap} (h : va_P k.1 vwCl ((mW k a M).set 0 (a 0, .inr (5, ([.int (M_cells M), .ref (a 1), .ref (a 2), .ref (a 3), .ref (a 4), .ref (a 5), .ref (a 6), .ref (a 7), .ref (a 8), .ref (a 9), .int (M_isFair M), .long (M_fairAbove M), .long (M_fairBelow M), .long (M_weight M), .int (M_least M), .long (M_draw M), .int (M_hasChoice M), .int (M_choice M), .int (M_earlier M), .long (M_cost M), .int (M_hasRun M), .int (M_answer M), .long (M_bound M), .int (M_clashes M), .int (M_tried M), .long (M_triedCost M), .int (M_kept M)] : List Value).set 12 (.long v)))) H) : va_P k.1 vwCl (mW k a (sM_fairBelow M v)) H := h
theorem dz_m_0_12 (k : KT) (a : Nat → Nat) (M : ModT) (v : Int64) {A : Nat → Prop} (h : va_D A ((mW k a M).set 0 (a 0, .inr (5, ([.int (M_cells M), .ref (a 1), .ref (a 2), .ref (a 3), .ref (a 4), .ref (a 5), .ref (a 6), .ref (a 7), .ref (a 8), .ref (a 9), .int (M_isFair M), .long (M_fairAbove M), .long (M_fairBelow M), .long (M_weight M), .int (M_least M), .long (M_draw M), .int (M_hasChoice M), .int (M_choice M), .int (M_earlier M), .long (M_cost M), .int (M_hasRun M), .int (M_answer M), .long (M_bound M), .int (M_clashes M), .int (M_tried M), .long (M_triedCost M), .int (M_kept M)] : List Value).set 12 (.long v))))) : va_D A (mW k a (sM_fairBelow M v)) := h
theorem pz_m_0_13 (k : KT) (a : Nat → Nat) (M : ModT) (v : Int64) {H : Heap} (h : va_P k.1 vwCl ((mW k a M).set 0 (a 0, .inr (5, ([.int (M_cells M), .ref (a 1), .ref (a 2), .ref (a 3), .ref (a 4), .ref (a 5), .ref (a 6), .ref (a 7), .ref (a 8), .ref (a 9), .int (M_isFair M), .long (M_fairAbove M), .long (M_fairBelow M), .long (M_weight M), .int (M_least M), .long (M_draw M), .int (M_hasChoice M), .int (M_choice M), .int (M_earlier M), .long (M_cost M), .int (M_hasRun M), .int (M_answer M), .long (M_bound M), .int (M_clashes M), .int (M_tried M), .long (M_triedCost M), .int (M_kept M)] : List Value).set 13 (.long v)))) H) : va_P k.1 vwCl (mW k a (sM_weight M v)) H := h
theorem dz_m_0_13 (k : KT) (a : Nat → Nat) (M : ModT) (v : Int64) {A : Nat → Prop} (h : va_D A ((mW k a M).set 0 (a 0, .inr (5, ([.int (M_cells M), .ref (a 1), .ref (a 2), .ref (a 3), .ref (a 4), .ref (a 5), .ref (a 6), .ref (a 7), .ref (a 8), .ref (a 9), .int (M_isFair M), .long (M_fairAbove M), .long (M_fairBelow M), .long (M_weight M), .int (M_least M), .long (M_draw M), .int (M_hasChoice M), .int (M_choice M), .int (M_earlier M), .long (M_cost M), .int (M_hasRun M), .int (M_answer M), .long (M_bound M), .int (M_clashes M), .int (M_tried M), .long (M_triedCost M), .int (M_kept M)] : List Value).set 13 (.long v))))) : va_D A (mW k a (sM_weight M v)) := h
theorem pz_m_0_14 (k : KT) (a : Nat → Nat) (M : ModT) (v : Int32) {H : Heap} (h : va_P k.1 vwCl ((mW k a M).set 0 (a 0, .inr (5, ([.int (M_cells M), .ref (a 1), .ref (a 2), .ref (a 3), .ref (a 4), .ref (a 5), .ref (a 6), .ref (a 7), .ref (a 8), .ref (a 9), .int (M_isFair M), .long (M_fairAbove M), .long (M_fairBelow M), .long (M_weight M), .int (M_least M), .long (M_draw M), .int (M_hasChoice M), .int (M_choice M), .int (M_earlier M), .long (M_cost M), .int (M_hasRun M), .int (M_answer M), .long (M_bound M), .int (M_clashes M), .int (M_tried M), .long (M_triedCost M), .int (M_kept M)] : List Value).set 14 (.int v)))) H) : va_P k.1 vwCl (mW k a (sM_least M v)) H := h
theorem dz_m_0_14 (k : KT) (a : Nat → Nat) (M : ModT) (v : Int32) {A : Nat → Prop} (h : va_D A ((mW k a M).set 0 (a 0, .inr (5, ([.int (M_cells M), .ref (a 1), .ref (a 2), .ref (a 3), .ref (a 4), .ref (a 5), .ref (a 6), .ref (a 7), .ref (a 8), .ref (a 9), .int (M_isFair M), .long (M_fairAbove M), .long (M_fairBelow M), .long (M_weight M), .int (M_least M), .long (M_draw M), .int (M_hasChoice M), .int (M_choice M), .int (M_earlier M), .long (M_cost M), .int (M_hasRun M), .int (M_answer M), .long (M_bound M), .int (M_clashes M), .int (M_tried M), .long (M_triedCost M), .int (M_kept M)] : List Value).set 14 (.int v))))) : va_D A (mW k a (sM_least M v)) := h
theorem pz_m_0_15 (k : KT) (a : Nat → Nat) (M : ModT) (v : Int64) {H : Heap} (h : va_P k.1 vwCl ((mW k a M).set 0 (a 0, .inr (5, ([.int (M_cells M), .ref (a 1), .ref (a 2), .ref (a 3), .ref (a 4), .ref (a 5), .ref (a 6), .ref (a 7), .ref (a 8), .ref (a 9), .int (M_isFair M), .long (M_fairAbove M), .long (M_fairBelow M), .long (M_weight M), .int (M_least M), .long (M_draw M), .int (M_hasChoice M), .int (M_choice M), .int (M_earlier M), .long (M_cost M), .int (M_hasRun M), .int (M_answer M), .long (M_bound M), .int (M_clashes M), .int (M_tried M), .long (M_triedCost M), .int (M_kept M)] : List Value).set 15 (.long v)))) H) : va_P k.1 vwCl (mW k a (sM_draw M v)) H := h
theorem dz_m_0_15 (k : KT) (a : Nat → Nat) (M : ModT) (v : Int64) {A : Nat → Prop} (h : va_D A ((mW k a M).set 0 (a 0, .inr (5, ([.int (M_cells M), .ref (a 1), .ref (a 2), .ref (a 3), .ref (a 4), .ref (a 5), .ref (a 6), .ref (a 7), .ref (a 8), .ref (a 9), .int (M_isFair M), .long (M_fairAbove M), .long (M_fairBelow M), .long (M_weight M), .int (M_least M), .long (M_draw M), .int (M_hasChoice M), .int (M_choice M), .int (M_earlier M), .long (M_cost M), .int (M_hasRun M), .int (M_answer M), .long (M_bound M), .int (M_clashes M), .int (M_tried M), .long (M_triedCost M), .int (M_kept M)] : List Value).set 15 (.long v))))) : va_D A (mW k a (sM_draw M v)) := h
theorem pz_m_0_16 (k : KT) (a : Nat → Nat) (M : ModT) (v : Int32) {H : Heap} (h : va_P k.1 vwCl ((mW k a M).set 0 (a 0, .inr (5, ([.int (M_cells M), .ref (a 1), .ref (a 2), .ref (a 3), .ref (a 4), .ref (a 5), .ref (a 6), .ref (a 7), .ref (a 8), .ref (a 9), .int (M_isFair M), .long (M_fairAbove M), .long (M_fairBelow M), .long (M_weight M), .int (M_least M), .long (M_draw M), .int (M_hasChoice M), .int (M_choice M), .int (M_earlier M), .long (M_cost M), .int (M_hasRun M), .int (M_answer M), .long (M_bound M), .int (M_clashes M), .int (M_tried M), .long (M_triedCost M), .int (M_kept M)] : List Value).set 16 (.int v)))) H) : va_P k.1 vwCl (mW k a (sM_hasChoice M v)) H := h
theorem dz_m_0_16 (k : KT) (a : Nat → Nat) (M : ModT) (v : Int32) {A : Nat → Prop} (h : va_D A ((mW k a M).set 0 (a 0, .inr (5, ([.int (M_cells M), .ref (a 1), .ref (a 2), .ref (a 3), .ref (a 4), .ref (a 5), .ref (a 6), .ref (a 7), .ref (a 8), .ref (a 9), .int (M_isFair M), .long (M_fairAbove M), .long (M_fairBelow M), .long (M_weight M), .int (M_least M), .long (M_draw M), .int (M_hasChoice M), .int (M_choice M), .int (M_earlier M), .long (M_cost M), .int (M_hasRun M), .int (M_answer M), .long (M_bound M), .int (M_clashes M), .int (M_tried M), .long (M_triedCost M), .int (M_kept M)] : List Value).set 16 (.int v))))) : va_D A (mW k a (sM_hasChoice M v)) := h
theorem pz_m_0_17 (k : KT) (a : Nat → Nat) (M : ModT) (v : Int32) {H : Heap} (h : va_P k.1 vwCl ((mW k a M).set 0 (a 0, .inr (5, ([.int (M_cells M), .ref (a 1), .ref (a 2), .ref (a 3), .ref (a 4), .ref (a 5), .ref (a 6), .ref (a 7), .ref (a 8), .ref (a 9), .int (M_isFair M), .long (M_fairAbove M), .long (M_fairBelow M), .long (M_weight M), .int (M_least M), .long (M_draw M), .int (M_hasChoice M), .int (M_choice M), .int (M_earlier M), .long (M_cost M), .int (M_hasRun M), .int (M_answer M), .long (M_bound M), .int (M_clashes M), .int (M_tried M), .long (M_triedCost M), .int (M_kept M)] : List Value).set 17 (.int v)))) H) : va_P k.1 vwCl (mW k a (sM_choice M v)) H := h
theorem dz_m_0_17 (k : KT) (a : Nat → Nat) (M : ModT) (v : Int32) {A : Nat → Prop} (h : va_D A ((mW k a M).set 0 (a 0, .inr (5, ([.int (M_cells M), .ref (a 1), .ref (a 2), .ref (a 3), .ref (a 4), .ref (a 5), .ref (a 6), .ref (a 7), .ref (a 8), .ref (a 9), .int (M_isFair M), .long (M_fairAbove M), .long (M_fairBelow M), .long (M_weight M), .int (M_least M), .long (M_draw M), .int (M_hasChoice M), .int (M_choice M), .int (M_earlier M), .long (M_cost M), .int (M_hasRun M), .int (M_answer M), .long (M_bound M), .int (M_clashes M), .int (M_tried M), .long (M_triedCost M), .int (M_kept M)] : List Value).set 17 (.int v))))) : va_D A (mW k a (sM_choice M v)) := h
theorem pz_m_0_18 (k : KT) (a : Nat → Nat) (M : ModT) (v : Int32) {H : Heap} (h : va_P k.1 vwCl ((mW k a M).set 0 (a 0, .inr (5, ([.int (M_cells M), .ref (a 1), .ref (a 2), .ref (a 3), .ref (a 4), .ref (a 5), .ref (a 6), .ref (a 7), .ref (a 8), .ref (a 9), .int (M_isFair M), .long (M_fairAbove M), .long (M_fairBelow M), .long (M_weight M), .int (M_least M), .long (M_draw M), .int (M_hasChoice M), .int (M_choice M), .int (M_earlier M), .long (M_cost M), .int (M_hasRun M), .int (M_answer M), .long (M_bound M), .int (M_clashes M), .int (M_tried M), .long (M_triedCost M), .int (M_kept M)] : List Value).set 18 (.int v)))) H) : va_P k.1 vwCl (mW k a (sM_earlier M v)) H := h
theorem dz_m_0_18 (k : KT) (a : Nat → Nat) (M : ModT) (v : Int32) {A : Nat → Prop} (h : va_D A ((mW k a M).set 0 (a 0, .inr (5, ([.int (M_cells M), .ref (a 1), .ref (a 2), .ref (a 3), .ref (a 4), .ref (a 5), .ref (a 6), .ref (a 7), .ref (a 8), .ref (a 9), .int (M_isFair M), .long (M_fairAbove M), .long (M_fairBelow M), .long (M_weight M), .int (M_least M), .long (M_draw M), .int (M_hasChoice M), .int (M_choice M), .int (M_earlier M), .long (M_cost M), .int (M_hasRun M), .int (M_answer M), .long (M_bound M), .int (M_clashes M), .int (M_tried M), .long (M_triedCost M), .int (M_kept M)] : List Value).set 18 (.int v))))) : va_D A (mW k a (sM_earlier M v)) := h
theorem pz_m_0_19 (k : KT) (a : Nat → Nat) (M : ModT) (v : Int64) {H : Heap} (h : va_P k.1 vwCl ((mW k a M).set 0 (a 0, .inr (5, ([.int (M_cells M), .ref (a 1), .ref (a 2), .ref (a 3), .ref (a 4), .ref (a 5), .ref (a 6), .ref (a 7), .ref (a 8), .ref (a 9), .int (M_isFair M), .long (M_fairAbove M), .long (M_fairBelow M), .long (M_weight M), .int (M_least M), .long (M_draw M), .int (M_hasChoice M), .int (M_choice M), .int (M_earlier M), .long (M_cost M), .int (M_hasRun M), .int (M_answer M), .long (M_bound M), .int (M_clashes M), .int (M_tried M), .long (M_triedCost M), .int (M_kept M)] : List Value).set 19 (.long v)))) H) : va_P k.1 vwCl (mW k a (sM_cost M v)) H := h
theorem dz_m_0_19 (k : KT) (a : Nat → Nat) (M : ModT) (v : Int64) {A : Nat → Prop} (h : va_D A ((mW k a M).set 0 (a 0, .inr (5, ([.int (M_cells M), .ref (a 1), .ref (a 2), .ref (a 3), .ref (a 4), .ref (a 5), .ref (a 6), .ref (a 7), .ref (a 8), .ref (a 9), .int (M_isFair M), .long (M_fairAbove M), .long (M_fairBelow M), .long (M_weight M), .int (M_least M), .long (M_draw M), .int (M_hasChoice M), .int (M_choice M), .int (M_earlier M), .long (M_cost M), .int (M_hasRun M), .int (M_answer M), .long (M_bound M), .int (M_clashes M), .int (M_tried M), .long (M_triedCost M), .int (M_kept M)] : List Value).set 19 (.long v))))) : va_D A (mW k a (sM_cost M v)) := h
theorem pz_m_0_20 (k : KT) (a : Nat → Nat) (M : ModT) (v : Int32) {H : Heap} (h : va_P k.1 vwCl ((mW k a M).set 0 (a 0, .inr (5, ([.int (M_cells M), .ref (a 1), .ref (a 2), .ref (a 3), .ref (a 4), .ref (a 5), .ref (a 6), .ref (a 7), .ref (a 8), .ref (a 9), .int (M_isFair M), .long (M_fairAbove M), .long (M_fairBelow M), .long (M_weight M), .int (M_least M), .long (M_draw M), .int (M_hasChoice M), .int (M_choice M), .int (M_earlier M), .long (M_cost M), .int (M_hasRun M), .int (M_answer M), .long (M_bound M), .int (M_clashes M), .int (M_tried M), .long (M_triedCost M), .int (M_kept M)] : List Value).set 20 (.int v)))) H) : va_P k.1 vwCl (mW k a (sM_hasRun M v)) H := h
theorem dz_m_0_20 (k : KT) (a : Nat → Nat) (M : ModT) (v : Int32) {A : Nat → Prop} (h : va_D A ((mW k a M).set 0 (a 0, .inr (5, ([.int (M_cells M), .ref (a 1), .ref (a 2), .ref (a 3), .ref (a 4), .ref (a 5), .ref (a 6), .ref (a 7), .ref (a 8), .ref (a 9), .int (M_isFair M), .long (M_fairAbove M), .long (M_fairBelow M), .long (M_weight M), .int (M_least M), .long (M_draw M), .int (M_hasChoice M), .int (M_choice M), .int (M_earlier M), .long (M_cost M), .int (M_hasRun M), .int (M_answer M), .long (M_bound M), .int (M_clashes M), .int (M_tried M), .long (M_triedCost M), .int (M_kept M)] : List Value).set 20 (.int v))))) : va_D A (mW k a (sM_hasRun M v)) := h
theorem pz_m_0_21 (k : KT) (a : Nat → Nat) (M : ModT) (v : Int32) {H : Heap} (h : va_P k.1 vwCl ((mW k a M).set 0 (a 0, .inr (5, ([.int (M_cells M), .ref (a 1), .ref (a 2), .ref (a 3), .ref (a 4), .ref (a 5), .ref (a 6), .ref (a 7), .ref (a 8), .ref (a 9), .int (M_isFair M), .long (M_fairAbove M), .long (M_fairBelow M), .long (M_weight M), .int (M_least M), .long (M_draw M), .int (M_hasChoice M), .int (M_choice M), .int (M_earlier M), .long (M_cost M), .int (M_hasRun M), .int (M_answer M), .long (M_bound M), .int (M_clashes M), .int (M_tried M), .long (M_triedCost M), .int (M_kept M)] : List Value).set 21 (.int v)))) H) : va_P k.1 vwCl (mW k a (sM_answer M v)) H := h
theorem dz_m_0_21 (k : KT) (a : Nat → Nat) (M : ModT) (v : Int32) {A : Nat → Prop} (h : va_D A ((mW k a M).set 0 (a 0, .inr (5, ([.int (M_cells M), .ref (a 1), .ref (a 2), .ref (a 3), .ref (a 4), .ref (a 5), .ref (a 6), .ref (a 7), .ref (a 8), .ref (a 9), .int (M_isFair M), .long (M_fairAbove M), .long (M_fairBelow M), .long (M_weight M), .int (M_least M), .long (M_draw M), .int (M_hasChoice M), .int (M_choice M), .int (M_earlier M), .long (M_cost M), .int (M_hasRun M), .int (M_answer M), .long (M_bound M), .int (M_clashes M), .int (M_tried M), .long (M_triedCost M), .int (M_kept M)] : List Value).set 21 (.int v))))) : va_D A (mW k a (sM_answer M v)) := h
theorem pz_m_0_22 (k : KT) (a : Nat → Nat) (M : ModT) (v : Int64) {H : Heap} (h : va_P k.1 vwCl ((mW k a M).set 0 (a 0, .inr (5, ([.int (M_cells M), .ref (a 1), .ref (a 2), .ref (a 3), .ref (a 4), .ref (a 5), .ref (a 6), .ref (a 7), .ref (a 8), .ref (a 9), .int (M_isFair M), .long (M_fairAbove M), .long (M_fairBelow M), .long (M_weight M), .int (M_least M), .long (M_draw M), .int (M_hasChoice M), .int (M_choice M), .int (M_earlier M), .long (M_cost M), .int (M_hasRun M), .int (M_answer M), .long (M_bound M), .int (M_clashes M), .int (M_tried M), .long (M_triedCost M), .int (M_kept M)] : List Value).set 22 (.long v)))) H) : va_P k.1 vwCl (mW k a (sM_bound M v)) H := h
theorem dz_m_0_22 (k : KT) (a : Nat → Nat) (M : ModT) (v : Int64) {A : Nat → Prop} (h : va_D A ((mW k a M).set 0 (a 0, .inr (5, ([.int (M_cells M), .ref (a 1), .ref (a 2), .ref (a 3), .ref (a 4), .ref (a 5), .ref (a 6), .ref (a 7), .ref (a 8), .ref (a 9), .int (M_isFair M), .long (M_fairAbove M), .long (M_fairBelow M), .long (M_weight M), .int (M_least M), .long (M_draw M), .int (M_hasChoice M), .int (M_choice M), .int (M_earlier M), .long (M_cost M), .int (M_hasRun M), .int (M_answer M), .long (M_bound M), .int (M_clashes M), .int (M_tried M), .long (M_triedCost M), .int (M_kept M)] : List Value).set 22 (.long v))))) : va_D A (mW k a (sM_bound M v)) := h
theorem pz_m_0_23 (k : KT) (a : Nat → Nat) (M : ModT) (v : Int32) {H : Heap} (h : va_P k.1 vwCl ((mW k a M).set 0 (a 0, .inr (5, ([.int (M_cells M), .ref (a 1), .ref (a 2), .ref (a 3), .ref (a 4), .ref (a 5), .ref (a 6), .ref (a 7), .ref (a 8), .ref (a 9), .int (M_isFair M), .long (M_fairAbove M), .long (M_fairBelow M), .long (M_weight M), .int (M_least M), .long (M_draw M), .int (M_hasChoice M), .int (M_choice M), .int (M_earlier M), .long (M_cost M), .int (M_hasRun M), .int (M_answer M), .long (M_bound M), .int (M_clashes M), .int (M_tried M), .long (M_triedCost M), .int (M_kept M)] : List Value).set 23 (.int v)))) H) : va_P k.1 vwCl (mW k a (sM_clashes M v)) H := h
theorem dz_m_0_23 (k : KT) (a : Nat → Nat) (M : ModT) (v : Int32) {A : Nat → Prop} (h : va_D A ((mW k a M).set 0 (a 0, .inr (5, ([.int (M_cells M), .ref (a 1), .ref (a 2), .ref (a 3), .ref (a 4), .ref (a 5), .ref (a 6), .ref (a 7), .ref (a 8), .ref (a 9), .int (M_isFair M), .long (M_fairAbove M), .long (M_fairBelow M), .long (M_weight M), .int (M_least M), .long (M_draw M), .int (M_hasChoice M), .int (M_choice M), .int (M_earlier M), .long (M_cost M), .int (M_hasRun M), .int (M_answer M), .long (M_bound M), .int (M_clashes M), .int (M_tried M), .long (M_triedCost M), .int (M_kept M)] : List Value).set 23 (.int v))))) : va_D A (mW k a (sM_clashes M v)) := h
theorem pz_m_0_24 (k : KT) (a : Nat → Nat) (M : ModT) (v : Int32) {H : Heap} (h : va_P k.1 vwCl ((mW k a M).set 0 (a 0, .inr (5, ([.int (M_cells M), .ref (a 1), .ref (a 2), .ref (a 3), .ref (a 4), .ref (a 5), .ref (a 6), .ref (a 7), .ref (a 8), .ref (a 9), .int (M_isFair M), .long (M_fairAbove M), .long (M_fairBelow M), .long (M_weight M), .int (M_least M), .long (M_draw M), .int (M_hasChoice M), .int (M_choice M), .int (M_earlier M), .long (M_cost M), .int (M_hasRun M), .int (M_answer M), .long (M_bound M), .int (M_clashes M), .int (M_tried M), .long (M_triedCost M), .int (M_kept M)] : List Value).set 24 (.int v)))) H) : va_P k.1 vwCl (mW k a (sM_tried M v)) H := h
theorem dz_m_0_24 (k : KT) (a : Nat → Nat) (M : ModT) (v : Int32) {A : Nat → Prop} (h : va_D A ((mW k a M).set 0 (a 0, .inr (5, ([.int (M_cells M), .ref (a 1), .ref (a 2), .ref (a 3), .ref (a 4), .ref (a 5), .ref (a 6), .ref (a 7), .ref (a 8), .ref (a 9), .int (M_isFair M), .long (M_fairAbove M), .long (M_fairBelow M), .long (M_weight M), .int (M_least M), .long (M_draw M), .int (M_hasChoice M), .int (M_choice M), .int (M_earlier M), .long (M_cost M), .int (M_hasRun M), .int (M_answer M), .long (M_bound M), .int (M_clashes M), .int (M_tried M), .long (M_triedCost M), .int (M_kept M)] : List Value).set 24 (.int v))))) : va_D A (mW k a (sM_tried M v)) := h
theorem pz_m_0_25 (k : KT) (a : Nat → Nat) (M : ModT) (v : Int64) {H : Heap} (h : va_P k.1 vwCl ((mW k a M).set 0 (a 0, .inr (5, ([.int (M_cells M), .ref (a 1), .ref (a 2), .ref (a 3), .ref (a 4), .ref (a 5), .ref (a 6), .ref (a 7), .ref (a 8), .ref (a 9), .int (M_isFair M), .long (M_fairAbove M), .long (M_fairBelow M), .long (M_weight M), .int (M_least M), .long (M_draw M), .int (M_hasChoice M), .int (M_choice M), .int (M_earlier M), .long (M_cost M), .int (M_hasRun M), .int (M_answer M), .long (M_bound M), .int (M_clashes M), .int (M_tried M), .long (M_triedCost M), .int (M_kept M)] : List Value).set 25 (.long v)))) H) : va_P k.1 vwCl (mW k a (sM_triedCost M v)) H := h
theorem dz_m_0_25 (k : KT) (a : Nat → Nat) (M : ModT) (v : Int64) {A : Nat → Prop} (h : va_D A ((mW k a M).set 0 (a 0, .inr (5, ([.int (M_cells M), .ref (a 1), .ref (a 2), .ref (a 3), .ref (a 4), .ref (a 5), .ref (a 6), .ref (a 7), .ref (a 8), .ref (a 9), .int (M_isFair M), .long (M_fairAbove M), .long (M_fairBelow M), .long (M_weight M), .int (M_least M), .long (M_draw M), .int (M_hasChoice M), .int (M_choice M), .int (M_earlier M), .long (M_cost M), .int (M_hasRun M), .int (M_answer M), .long (M_bound M), .int (M_clashes M), .int (M_tried M), .long (M_triedCost M), .int (M_kept M)] : List Value).set 25 (.long v))))) : va_D A (mW k a (sM_triedCost M v)) := h
theorem pz_m_0_26 (k : KT) (a : Nat → Nat) (M : ModT) (v : Int32) {H : Heap} (h : va_P k.1 vwCl ((mW k a M).set 0 (a 0, .inr (5, ([.int (M_cells M), .ref (a 1), .ref (a 2), .ref (a 3), .ref (a 4), .ref (a 5), .ref (a 6), .ref (a 7), .ref (a 8), .ref (a 9), .int (M_isFair M), .long (M_fairAbove M), .long (M_fairBelow M), .long (M_weight M), .int (M_least M), .long (M_draw M), .int (M_hasChoice M), .int (M_choice M), .int (M_earlier M), .long (M_cost M), .int (M_hasRun M), .int (M_answer M), .long (M_bound M), .int (M_clashes M), .int (M_tried M), .long (M_triedCost M), .int (M_kept M)] : List Value).set 26 (.int v)))) H) : va_P k.1 vwCl (mW k a (sM_kept M v)) H := h
theorem dz_m_0_26 (k : KT) (a : Nat → Nat) (M : ModT) (v : Int32) {A : Nat → Prop} (h : va_D A ((mW k a M).set 0 (a 0, .inr (5, ([.int (M_cells M), .ref (a 1), .ref (a 2), .ref (a 3), .ref (a 4), .ref (a 5), .ref (a 6), .ref (a 7), .ref (a 8), .ref (a 9), .int (M_isFair M), .long (M_fairAbove M), .long (M_fairBelow M), .long (M_weight M), .int (M_least M), .long (M_draw M), .int (M_hasChoice M), .int (M_choice M), .int (M_earlier M), .long (M_cost M), .int (M_hasRun M), .int (M_answer M), .long (M_bound M), .int (M_clashes M), .int (M_tried M), .long (M_triedCost M), .int (M_kept M)] : List Value).set 26 (.int v))))) : va_D A (mW k a (sM_kept M v)) := h
theorem pz_m_1 (k : KT) (a : Nat → Nat) (M : ModT) (v : Nat → Int64) {H : Heap} (h : va_P k.1 vwCl ((mW k a M).set 1 (a 1, .inl (k.2.2.1, 24, .inr (.inl v)))) H) : va_P k.1 vwCl (mW k a (sM_costs M v)) H := h
theorem dz_m_1 (k : KT) (a : Nat → Nat) (M : ModT) (v : Nat → Int64) {A : Nat → Prop} (h : va_D A ((mW k a M).set 1 (a 1, .inl (k.2.2.1, 24, .inr (.inl v))))) : va_D A (mW k a (sM_costs M v)) := h
theorem pz_m_2 (k : KT) (a : Nat → Nat) (M : ModT) (v : Nat → Int32) {H : Heap} (h : va_P k.1 vwCl ((mW k a M).set 2 (a 2, .inl (k.2.1, 24, .inl v))) H) : va_P k.1 vwCl (mW k a (sM_states M v)) H := h
theorem dz_m_2 (k : KT) (a : Nat → Nat) (M : ModT) (v : Nat → Int32) {A : Nat → Prop} (h : va_D A ((mW k a M).set 2 (a 2, .inl (k.2.1, 24, .inl v)))) : va_D A (mW k a (sM_states M v)) := h
theorem pz_m_3 (k : KT) (a : Nat → Nat) (M : ModT) (v : Nat → Int64) {H : Heap} (h : va_P k.1 vwCl ((mW k a M).set 3 (a 3, .inl (k.2.2.1, 192, .inr (.inl v)))) H) : va_P k.1 vwCl (mW k a (sM_amounts M v)) H := h
theorem dz_m_3 (k : KT) (a : Nat → Nat) (M : ModT) (v : Nat → Int64) {A : Nat → Prop} (h : va_D A ((mW k a M).set 3 (a 3, .inl (k.2.2.1, 192, .inr (.inl v))))) : va_D A (mW k a (sM_amounts M v)) := h
theorem pz_m_4 (k : KT) (a : Nat → Nat) (M : ModT) (v : Nat → Int64) {H : Heap} (h : va_P k.1 vwCl ((mW k a M).set 4 (a 4, .inl (k.2.2.1, 96, .inr (.inl v)))) H) : va_P k.1 vwCl (mW k a (sM_hours M v)) H := h
theorem dz_m_4 (k : KT) (a : Nat → Nat) (M : ModT) (v : Nat → Int64) {A : Nat → Prop} (h : va_D A ((mW k a M).set 4 (a 4, .inl (k.2.2.1, 96, .inr (.inl v))))) : va_D A (mW k a (sM_hours M v)) := h
theorem pz_m_5 (k : KT) (a : Nat → Nat) (M : ModT) (v : Nat → Int64) {H : Heap} (h : va_P k.1 vwCl ((mW k a M).set 5 (a 5, .inl (k.2.2.1, 576, .inr (.inl v)))) H) : va_P k.1 vwCl (mW k a (sM_borders M v)) H := h
theorem dz_m_5 (k : KT) (a : Nat → Nat) (M : ModT) (v : Nat → Int64) {A : Nat → Prop} (h : va_D A ((mW k a M).set 5 (a 5, .inl (k.2.2.1, 576, .inr (.inl v))))) : va_D A (mW k a (sM_borders M v)) := h
theorem pz_m_6 (k : KT) (a : Nat → Nat) (M : ModT) (v : Nat → Int32) {H : Heap} (h : va_P k.1 vwCl ((mW k a M).set 6 (a 6, .inl (k.2.2.2, 576, .inl v))) H) : va_P k.1 vwCl (mW k a (sM_apart M v)) H := h
theorem dz_m_6 (k : KT) (a : Nat → Nat) (M : ModT) (v : Nat → Int32) {A : Nat → Prop} (h : va_D A ((mW k a M).set 6 (a 6, .inl (k.2.2.2, 576, .inl v)))) : va_D A (mW k a (sM_apart M v)) := h
theorem pz_m_7 (k : KT) (a : Nat → Nat) (M : ModT) (v : Nat → Int32) {H : Heap} (h : va_P k.1 vwCl ((mW k a M).set 7 (a 7, .inl (k.2.2.2, 8, .inl v))) H) : va_P k.1 vwCl (mW k a (sM_hasGoal M v)) H := h
theorem dz_m_7 (k : KT) (a : Nat → Nat) (M : ModT) (v : Nat → Int32) {A : Nat → Prop} (h : va_D A ((mW k a M).set 7 (a 7, .inl (k.2.2.2, 8, .inl v)))) : va_D A (mW k a (sM_hasGoal M v)) := h
theorem pz_m_8 (k : KT) (a : Nat → Nat) (M : ModT) (v : Nat → Int64) {H : Heap} (h : va_P k.1 vwCl ((mW k a M).set 8 (a 8, .inl (k.2.2.1, 8, .inr (.inl v)))) H) : va_P k.1 vwCl (mW k a (sM_goalAbove M v)) H := h
theorem dz_m_8 (k : KT) (a : Nat → Nat) (M : ModT) (v : Nat → Int64) {A : Nat → Prop} (h : va_D A ((mW k a M).set 8 (a 8, .inl (k.2.2.1, 8, .inr (.inl v))))) : va_D A (mW k a (sM_goalAbove M v)) := h
theorem pz_m_9 (k : KT) (a : Nat → Nat) (M : ModT) (v : Nat → Int64) {H : Heap} (h : va_P k.1 vwCl ((mW k a M).set 9 (a 9, .inl (k.2.2.1, 8, .inr (.inl v)))) H) : va_P k.1 vwCl (mW k a (sM_goalBelow M v)) H := h
theorem dz_m_9 (k : KT) (a : Nat → Nat) (M : ModT) (v : Nat → Int64) {A : Nat → Prop} (h : va_D A ((mW k a M).set 9 (a 9, .inl (k.2.2.1, 8, .inr (.inl v))))) : va_D A (mW k a (sM_goalBelow M v)) := h
theorem pz_d_0_0 (k : KT) (a : Nat → Nat) (dr : Int64) (v : Int64) {H : Heap} (h : va_P k.1 vwCl ((dW k a dr).set 0 (a 0, .inr (1, ([.long dr] : List Value).set 0 (.long v)))) H) : va_P k.1 vwCl (dW k a v) H := h
theorem dz_d_0_0 (k : KT) (a : Nat → Nat) (dr : Int64) (v : Int64) {A : Nat → Prop} (h : va_D A ((dW k a dr).set 0 (a 0, .inr (1, ([.long dr] : List Value).set 0 (.long v))))) : va_D A (dW k a v) := h
end
section
def w_within (value most : Int64) : Int32 := if value < 0 then 0 else if most < value then 0 else 1
def w_isShare (above below_ : Int64) : Int32 := if above < 0 then 0 else if below_ < above then 0 else if below_ < 1 then 0 else if 100 < below_ then 0 else 1
def w_isKind (kind : Int32) : Int32 := if kind < 0 then 0 else if kind < 8 then 1 else 0
def w_isPort (port : Int32) : Int32 := if port < 0 then 0 else if port < 4 then 1 else 0
def w_hasBit (set place : Int32) : Int32 := if (iu set place &&& 1) = 0 then 0 else 1
def w_hasCell (n c : Int32) : Int32 := if c < 0 then 0 else if c < n then 1 else 0
def w_bitCount (x : Int32) : Int32 :=
  let i := x - (iu x 1 &&& 1431655765)
  let i := (i &&& 858993459) + (iu i 2 &&& 858993459)
  let i := (i + iu i 4) &&& 252645135
  let i := i + iu i 8
  let i := i + iu i 16
  i &&& 63

set_option maxHeartbeats 4000000 in
set_option maxRecDepth 100000 in
theorem c_X4_within (l : Launch) (k : KT)  (value : Int64) (most : Int64)  : MR l yX4_within cX4_within 4 (some .boolean) (rz 0 0) k [.long value, .long most] [] (.int (w_within value most)) := by
  refine Met.ofW (cc := cX4_within) (maxL := 4) (ret := (some .boolean)) (by decide) rfl ?_
  intro p e s m args below meth c s₁ B hml hv
  obtain ⟨rfl, hP, hK⟩ := hv
  have hx := B.exec
  have hb := B.bytes
  have hr := B.returns
  have hU : ∀ w ∈ wsL_law, w.before [.long value, .long most].toArray s = true := fun w h => atoms_spec (ws := Cond.code yX4_within cX4_within 4 (some .boolean) :: wsL_law) B.pre w (List.mem_cons_of_mem _ h)
  have hown : s.vm.findClass RX4 = some m.cls := findClass_of_methodNamed B.named
  have hlocks := B.notSynchronized
  have hF : CF p m c cX4_within 4 s [.long value, .long most].toArray RX4 := ⟨hx, hb, hml, hown, hU⟩
  have hl := lv_entry ([.long value, .long most] : List Value) (n := 4) (Nat.le_of_ble_eq_true rfl)
  rw [lg_entry_eq]
  generalize (lg_sl ([.long value, .long most] : List Value) ++ List.replicate (4 - (lg_sl ([.long value, .long most] : List Value)).length) Slot.unset).toArray = ls at hl ⊢
  have hl : lv_has ls 4 [(0, .long value), (2, .long most)] := hl
  refine lv_lload_n hx hb dX4_within_0 rfl (lv_at hl 0 rfl) ?_
  refine lv_lconst (v := 0) hx hb dX4_within_1 (by decide) ?_
  refine xl_lt (tgt := 16) hx hb dX4_within_2 dX4_within_3 (by decide) (fun c_1 => ?_) (fun c_1 => ?_)
  · refine lv_iconst (v := 0) hx hb dX4_within_16 (by decide) ?_
    exact W.zret (v := 0) hx hb hr rfl (fun t ht hW => ⟨by rw [w_within, if_pos c_1], ht⟩) (fun q h => absurd h List.not_mem_nil) dX4_within_17
  · refine lv_lload_n hx hb dX4_within_6 rfl (lv_at hl 0 rfl) ?_
    refine lv_lload_n hx hb dX4_within_7 rfl (lv_at hl 1 rfl) ?_
    refine xl_gt (tgt := 16) hx hb dX4_within_8 dX4_within_9 (by decide) (fun c_2 => ?_) (fun c_2 => ?_)
    · refine lv_iconst (v := 0) hx hb dX4_within_16 (by decide) ?_
      exact W.zret (v := 0) hx hb hr rfl (fun t ht hW => ⟨by rw [w_within, if_neg c_1, if_pos c_2], ht⟩) (fun q h => absurd h List.not_mem_nil) dX4_within_17
    · refine lv_iconst (v := 1) hx hb dX4_within_12 (by decide) ?_
      refine lv_goto (tgt := 17) hx hb dX4_within_13 (by decide) ?_
      exact W.zret (v := 1) hx hb hr rfl (fun t ht hW => ⟨by rw [w_within, if_neg c_1, if_neg c_2], ht⟩) (fun q h => absurd h List.not_mem_nil) dX4_within_17

set_option maxHeartbeats 4000000 in
set_option maxRecDepth 100000 in
theorem c_X4_isShare (l : Launch) (k : KT)  (above : Int64) (below_ : Int64)  : MR l yX4_isShare cX4_isShare 4 (some .boolean) (rz 0 0) k [.long above, .long below_] [] (.int (w_isShare above below_)) := by
  refine Met.ofW (cc := cX4_isShare) (maxL := 4) (ret := (some .boolean)) (by decide) rfl ?_
  intro p e s m args below meth c s₁ B hml hv
  obtain ⟨rfl, hP, hK⟩ := hv
  have hx := B.exec
  have hb := B.bytes
  have hr := B.returns
  have hU : ∀ w ∈ wsL_law, w.before [.long above, .long below_].toArray s = true := fun w h => atoms_spec (ws := Cond.code yX4_isShare cX4_isShare 4 (some .boolean) :: wsL_law) B.pre w (List.mem_cons_of_mem _ h)
  have hown : s.vm.findClass RX4 = some m.cls := findClass_of_methodNamed B.named
  have hlocks := B.notSynchronized
  have hF : CF p m c cX4_isShare 4 s [.long above, .long below_].toArray RX4 := ⟨hx, hb, hml, hown, hU⟩
  have hl := lv_entry ([.long above, .long below_] : List Value) (n := 4) (Nat.le_of_ble_eq_true rfl)
  rw [lg_entry_eq]
  generalize (lg_sl ([.long above, .long below_] : List Value) ++ List.replicate (4 - (lg_sl ([.long above, .long below_] : List Value)).length) Slot.unset).toArray = ls at hl ⊢
  have hl : lv_has ls 4 [(0, .long above), (2, .long below_)] := hl
  refine lv_lload_n hx hb dX4_isShare_0 rfl (lv_at hl 0 rfl) ?_
  refine lv_lconst (v := 0) hx hb dX4_isShare_1 (by decide) ?_
  refine xl_lt (tgt := 30) hx hb dX4_isShare_2 dX4_isShare_3 (by decide) (fun c_1 => ?_) (fun c_1 => ?_)
  · refine lv_iconst (v := 0) hx hb dX4_isShare_30 (by decide) ?_
    exact W.zret (v := 0) hx hb hr rfl (fun t ht hW => ⟨by rw [w_isShare, if_pos c_1], ht⟩) (fun q h => absurd h List.not_mem_nil) dX4_isShare_31
  · refine lv_lload_n hx hb dX4_isShare_6 rfl (lv_at hl 0 rfl) ?_
    refine lv_lload_n hx hb dX4_isShare_7 rfl (lv_at hl 1 rfl) ?_
    refine xl_gt (tgt := 30) hx hb dX4_isShare_8 dX4_isShare_9 (by decide) (fun c_2 => ?_) (fun c_2 => ?_)
    · refine lv_iconst (v := 0) hx hb dX4_isShare_30 (by decide) ?_
      exact W.zret (v := 0) hx hb hr rfl (fun t ht hW => ⟨by rw [w_isShare, if_neg c_1, if_pos c_2], ht⟩) (fun q h => absurd h List.not_mem_nil) dX4_isShare_31
    · refine lv_lload_n hx hb dX4_isShare_12 rfl (lv_at hl 1 rfl) ?_
      refine lv_lconst (v := 1) hx hb dX4_isShare_13 (by decide) ?_
      refine xl_lt (tgt := 30) hx hb dX4_isShare_14 dX4_isShare_15 (by decide) (fun c_3 => ?_) (fun c_3 => ?_)
      · refine lv_iconst (v := 0) hx hb dX4_isShare_30 (by decide) ?_
        exact W.zret (v := 0) hx hb hr rfl (fun t ht hW => ⟨by rw [w_isShare, if_neg c_1, if_neg c_2, if_pos c_3], ht⟩) (fun q h => absurd h List.not_mem_nil) dX4_isShare_31
      · refine lv_lload_n hx hb dX4_isShare_18 rfl (lv_at hl 1 rfl) ?_
        refine lv_ldc2 hx hb hown (hU _ uK_X4_223) dX4_isShare_19 ?_
        refine xl_gt (tgt := 30) hx hb dX4_isShare_22 dX4_isShare_23 (by decide) (fun c_4 => ?_) (fun c_4 => ?_)
        · refine lv_iconst (v := 0) hx hb dX4_isShare_30 (by decide) ?_
          exact W.zret (v := 0) hx hb hr rfl (fun t ht hW => ⟨by rw [w_isShare, if_neg c_1, if_neg c_2, if_neg c_3, if_pos c_4], ht⟩) (fun q h => absurd h List.not_mem_nil) dX4_isShare_31
        · refine lv_iconst (v := 1) hx hb dX4_isShare_26 (by decide) ?_
          refine lv_goto (tgt := 31) hx hb dX4_isShare_27 (by decide) ?_
          exact W.zret (v := 1) hx hb hr rfl (fun t ht hW => ⟨by rw [w_isShare, if_neg c_1, if_neg c_2, if_neg c_3, if_neg c_4], ht⟩) (fun q h => absurd h List.not_mem_nil) dX4_isShare_31

set_option maxHeartbeats 4000000 in
set_option maxRecDepth 100000 in
theorem c_X4_isKind (l : Launch) (k : KT)  (kind : Int32)  : MR l yX4_isKind cX4_isKind 1 (some .boolean) (rz 0 0) k [.int kind] [] (.int (w_isKind kind)) := by
  refine Met.ofW (cc := cX4_isKind) (maxL := 1) (ret := (some .boolean)) (by decide) rfl ?_
  intro p e s m args below meth c s₁ B hml hv
  obtain ⟨rfl, hP, hK⟩ := hv
  have hx := B.exec
  have hb := B.bytes
  have hr := B.returns
  have hU : ∀ w ∈ wsL_law, w.before [.int kind].toArray s = true := fun w h => atoms_spec (ws := Cond.code yX4_isKind cX4_isKind 1 (some .boolean) :: wsL_law) B.pre w (List.mem_cons_of_mem _ h)
  have hown : s.vm.findClass RX4 = some m.cls := findClass_of_methodNamed B.named
  have hlocks := B.notSynchronized
  have hF : CF p m c cX4_isKind 1 s [.int kind].toArray RX4 := ⟨hx, hb, hml, hown, hU⟩
  have hl := lv_entry ([.int kind] : List Value) (n := 1) (Nat.le_of_ble_eq_true rfl)
  rw [lg_entry_eq]
  generalize (lg_sl ([.int kind] : List Value) ++ List.replicate (1 - (lg_sl ([.int kind] : List Value)).length) Slot.unset).toArray = ls at hl ⊢
  have hl : lv_has ls 1 [(0, .int kind)] := hl
  refine lv_iload_n hx hb dX4_isKind_0 rfl (lv_at hl 0 rfl) ?_
  refine lv_if_lt (tgt := 14) hx hb dX4_isKind_1 (by decide) (fun c_1 => ?_) (fun c_1 => ?_)
  · refine lv_iconst (v := 0) hx hb dX4_isKind_14 (by decide) ?_
    exact W.zret (v := 0) hx hb hr rfl (fun t ht hW => ⟨by rw [w_isKind, if_pos c_1], ht⟩) (fun q h => absurd h List.not_mem_nil) dX4_isKind_15
  · refine lv_iload_n hx hb dX4_isKind_4 rfl (lv_at hl 0 rfl) ?_
    refine lv_bipush (v := 8) hx hb dX4_isKind_5 (by decide) ?_
    refine xb_ge (tgt := 14) hx hb dX4_isKind_7 (by decide) (fun c_2 => ?_) (fun c_2 => ?_)
    · refine lv_iconst (v := 0) hx hb dX4_isKind_14 (by decide) ?_
      exact W.zret (v := 0) hx hb hr rfl (fun t ht hW => ⟨by rw [w_isKind, if_neg c_1, if_neg c_2], ht⟩) (fun q h => absurd h List.not_mem_nil) dX4_isKind_15
    · refine lv_iconst (v := 1) hx hb dX4_isKind_10 (by decide) ?_
      refine lv_goto (tgt := 15) hx hb dX4_isKind_11 (by decide) ?_
      exact W.zret (v := 1) hx hb hr rfl (fun t ht hW => ⟨by rw [w_isKind, if_neg c_1, if_pos c_2], ht⟩) (fun q h => absurd h List.not_mem_nil) dX4_isKind_15

set_option maxHeartbeats 4000000 in
set_option maxRecDepth 100000 in
theorem c_X4_isPort (l : Launch) (k : KT)  (port : Int32)  : MR l yX4_isPort cX4_isPort 1 (some .boolean) (rz 0 0) k [.int port] [] (.int (w_isPort port)) := by
  refine Met.ofW (cc := cX4_isPort) (maxL := 1) (ret := (some .boolean)) (by decide) rfl ?_
  intro p e s m args below meth c s₁ B hml hv
  obtain ⟨rfl, hP, hK⟩ := hv
  have hx := B.exec
  have hb := B.bytes
  have hr := B.returns
  have hU : ∀ w ∈ wsL_law, w.before [.int port].toArray s = true := fun w h => atoms_spec (ws := Cond.code yX4_isPort cX4_isPort 1 (some .boolean) :: wsL_law) B.pre w (List.mem_cons_of_mem _ h)
  have hown : s.vm.findClass RX4 = some m.cls := findClass_of_methodNamed B.named
  have hlocks := B.notSynchronized
  have hF : CF p m c cX4_isPort 1 s [.int port].toArray RX4 := ⟨hx, hb, hml, hown, hU⟩
  have hl := lv_entry ([.int port] : List Value) (n := 1) (Nat.le_of_ble_eq_true rfl)
  rw [lg_entry_eq]
  generalize (lg_sl ([.int port] : List Value) ++ List.replicate (1 - (lg_sl ([.int port] : List Value)).length) Slot.unset).toArray = ls at hl ⊢
  have hl : lv_has ls 1 [(0, .int port)] := hl
  refine lv_iload_n hx hb dX4_isPort_0 rfl (lv_at hl 0 rfl) ?_
  refine lv_if_lt (tgt := 13) hx hb dX4_isPort_1 (by decide) (fun c_1 => ?_) (fun c_1 => ?_)
  · refine lv_iconst (v := 0) hx hb dX4_isPort_13 (by decide) ?_
    exact W.zret (v := 0) hx hb hr rfl (fun t ht hW => ⟨by rw [w_isPort, if_pos c_1], ht⟩) (fun q h => absurd h List.not_mem_nil) dX4_isPort_14
  · refine lv_iload_n hx hb dX4_isPort_4 rfl (lv_at hl 0 rfl) ?_
    refine lv_iconst (v := 4) hx hb dX4_isPort_5 (by decide) ?_
    refine xb_ge (tgt := 13) hx hb dX4_isPort_6 (by decide) (fun c_2 => ?_) (fun c_2 => ?_)
    · refine lv_iconst (v := 0) hx hb dX4_isPort_13 (by decide) ?_
      exact W.zret (v := 0) hx hb hr rfl (fun t ht hW => ⟨by rw [w_isPort, if_neg c_1, if_neg c_2], ht⟩) (fun q h => absurd h List.not_mem_nil) dX4_isPort_14
    · refine lv_iconst (v := 1) hx hb dX4_isPort_9 (by decide) ?_
      refine lv_goto (tgt := 14) hx hb dX4_isPort_10 (by decide) ?_
      exact W.zret (v := 1) hx hb hr rfl (fun t ht hW => ⟨by rw [w_isPort, if_neg c_1, if_pos c_2], ht⟩) (fun q h => absurd h List.not_mem_nil) dX4_isPort_14

set_option maxHeartbeats 4000000 in
set_option maxRecDepth 100000 in
theorem c_X4_hasBit (l : Launch) (k : KT)  (set : Int32) (place : Int32)  : MR l yX4_hasBit cX4_hasBit 2 (some .boolean) (rz 0 0) k [.int set, .int place] [] (.int (w_hasBit set place)) := by
  refine Met.ofW (cc := cX4_hasBit) (maxL := 2) (ret := (some .boolean)) (by decide) rfl ?_
  intro p e s m args below meth c s₁ B hml hv
  obtain ⟨rfl, hP, hK⟩ := hv
  have hx := B.exec
  have hb := B.bytes
  have hr := B.returns
  have hU : ∀ w ∈ wsL_law, w.before [.int set, .int place].toArray s = true := fun w h => atoms_spec (ws := Cond.code yX4_hasBit cX4_hasBit 2 (some .boolean) :: wsL_law) B.pre w (List.mem_cons_of_mem _ h)
  have hown : s.vm.findClass RX4 = some m.cls := findClass_of_methodNamed B.named
  have hlocks := B.notSynchronized
  have hF : CF p m c cX4_hasBit 2 s [.int set, .int place].toArray RX4 := ⟨hx, hb, hml, hown, hU⟩
  have hl := lv_entry ([.int set, .int place] : List Value) (n := 2) (Nat.le_of_ble_eq_true rfl)
  rw [lg_entry_eq]
  generalize (lg_sl ([.int set, .int place] : List Value) ++ List.replicate (2 - (lg_sl ([.int set, .int place] : List Value)).length) Slot.unset).toArray = ls at hl ⊢
  have hl : lv_has ls 2 [(0, .int set), (1, .int place)] := hl
  refine lv_iload_n hx hb dX4_hasBit_0 rfl (lv_at hl 0 rfl) ?_
  refine lv_iload_n hx hb dX4_hasBit_1 rfl (lv_at hl 1 rfl) ?_
  refine lv_iushr (v := (iu set place)) hx hb dX4_hasBit_2 rfl ?_
  refine lv_iconst (v := 1) hx hb dX4_hasBit_3 (by decide) ?_
  refine lv_iand hx hb dX4_hasBit_4 ?_
  refine lv_if_eq (tgt := 12) hx hb dX4_hasBit_5 (by decide) (fun c_1 => ?_) (fun c_1 => ?_)
  · refine lv_iconst (v := 0) hx hb dX4_hasBit_12 (by decide) ?_
    exact W.zret (v := 0) hx hb hr rfl (fun t ht hW => ⟨by rw [w_hasBit, if_pos c_1], ht⟩) (fun q h => absurd h List.not_mem_nil) dX4_hasBit_13
  · refine lv_iconst (v := 1) hx hb dX4_hasBit_8 (by decide) ?_
    refine lv_goto (tgt := 13) hx hb dX4_hasBit_9 (by decide) ?_
    exact W.zret (v := 1) hx hb hr rfl (fun t ht hW => ⟨by rw [w_hasBit, if_neg c_1], ht⟩) (fun q h => absurd h List.not_mem_nil) dX4_hasBit_13

set_option maxHeartbeats 4000000 in
set_option maxRecDepth 100000 in
theorem c_J6_bitCount_0f7a4 (l : Launch) (k : KT)  (x : Int32)  : MR l yJ6_bitCount_0f7a4 cJ6_bitCount_0f7a4 1 (some .int) (rz 0 0) k [.int x] [] (.int (w_bitCount x)) := by
  refine va_MetF (cc := cJ6_bitCount_0f7a4) (maxL := 1) (ret := (some .int)) (by decide) rfl ?_
  intro p e s m args below meth c s₁ B hml hv
  obtain ⟨rfl, hP, hK⟩ := hv
  have hx := B.exec
  have hb := B.bytes
  have hr := B.returns
  have hU : ∀ w ∈ wsL_law, w.before [.int x].toArray s = true := fun w h => atoms_spec (ws := Cond.code yJ6_bitCount_0f7a4 cJ6_bitCount_0f7a4 1 (some .int) :: wsL_law) B.pre w (List.mem_cons_of_mem _ h)
  have hown : s.vm.findClass RJ6 = some m.cls := findClass_of_methodNamed B.named
  have hlocks := B.notSynchronized
  have hF : CF p m c cJ6_bitCount_0f7a4 1 s [.int x].toArray RJ6 := ⟨hx, hb, hml, hown, hU⟩
  have hl := lv_entry ([.int x] : List Value) (n := 1) (Nat.le_of_ble_eq_true rfl)
  rw [lg_entry_eq]
  generalize (lg_sl ([.int x] : List Value) ++ List.replicate (1 - (lg_sl ([.int x] : List Value)).length) Slot.unset).toArray = ls at hl ⊢
  have hl : lv_has ls 1 [(0, .int x)] := hl
  refine lv_iload_n hx hb dJ6_bitCount_0f7a4_0 rfl (lv_at hl 0 rfl) ?_
  refine lv_iload_n hx hb dJ6_bitCount_0f7a4_1 rfl (lv_at hl 0 rfl) ?_
  refine lv_iconst (v := 1) hx hb dJ6_bitCount_0f7a4_2 (by decide) ?_
  refine lv_iushr (v := (iu x 1)) hx hb dJ6_bitCount_0f7a4_3 rfl ?_
  refine lv_ldcw hx hb hown (hU _ uK_J6_265) dJ6_bitCount_0f7a4_4 ?_
  refine lv_iand hx hb dJ6_bitCount_0f7a4_7 ?_
  refine lv_isub hx hb dJ6_bitCount_0f7a4_8 ?_
  refine lv_istore_n (lv' := [(0, .int (x - ((iu x 1) &&& 1431655765)))]) hx hb dJ6_bitCount_0f7a4_9 rfl hl (by decide) rfl (fun ls hl => ?_)
  refine lv_iload_n hx hb dJ6_bitCount_0f7a4_10 rfl (lv_at hl 0 rfl) ?_
  refine lv_ldcw hx hb hown (hU _ uK_J6_266) dJ6_bitCount_0f7a4_11 ?_
  refine lv_iand hx hb dJ6_bitCount_0f7a4_14 ?_
  refine lv_iload_n hx hb dJ6_bitCount_0f7a4_15 rfl (lv_at hl 0 rfl) ?_
  refine lv_iconst (v := 2) hx hb dJ6_bitCount_0f7a4_16 (by decide) ?_
  refine lv_iushr (v := (iu (x - ((iu x 1) &&& 1431655765)) 2)) hx hb dJ6_bitCount_0f7a4_17 rfl ?_
  refine lv_ldcw hx hb hown (hU _ uK_J6_266) dJ6_bitCount_0f7a4_18 ?_
  refine lv_iand hx hb dJ6_bitCount_0f7a4_21 ?_
  refine lv_iadd hx hb dJ6_bitCount_0f7a4_22 ?_
  refine lv_istore_n (lv' := [(0, .int (((x - ((iu x 1) &&& 1431655765)) &&& 858993459) + ((iu (x - ((iu x 1) &&& 1431655765)) 2) &&& 858993459)))]) hx hb dJ6_bitCount_0f7a4_23 rfl hl (by decide) rfl (fun ls hl => ?_)
  refine lv_iload_n hx hb dJ6_bitCount_0f7a4_24 rfl (lv_at hl 0 rfl) ?_
  refine lv_iload_n hx hb dJ6_bitCount_0f7a4_25 rfl (lv_at hl 0 rfl) ?_
  refine lv_iconst (v := 4) hx hb dJ6_bitCount_0f7a4_26 (by decide) ?_
  refine lv_iushr (v := (iu (((x - ((iu x 1) &&& 1431655765)) &&& 858993459) + ((iu (x - ((iu x 1) &&& 1431655765)) 2) &&& 858993459)) 4)) hx hb dJ6_bitCount_0f7a4_27 rfl ?_
  refine lv_iadd hx hb dJ6_bitCount_0f7a4_28 ?_
  refine lv_ldcw hx hb hown (hU _ uK_J6_267) dJ6_bitCount_0f7a4_29 ?_
  refine lv_iand hx hb dJ6_bitCount_0f7a4_32 ?_
  refine lv_istore_n (lv' := [(0, .int (((((x - ((iu x 1) &&& 1431655765)) &&& 858993459) + ((iu (x - ((iu x 1) &&& 1431655765)) 2) &&& 858993459)) + (iu (((x - ((iu x 1) &&& 1431655765)) &&& 858993459) + ((iu (x - ((iu x 1) &&& 1431655765)) 2) &&& 858993459)) 4)) &&& 252645135))]) hx hb dJ6_bitCount_0f7a4_33 rfl hl (by decide) rfl (fun ls hl => ?_)
  refine lv_iload_n hx hb dJ6_bitCount_0f7a4_34 rfl (lv_at hl 0 rfl) ?_
  refine lv_iload_n hx hb dJ6_bitCount_0f7a4_35 rfl (lv_at hl 0 rfl) ?_
  refine lv_bipush (v := 8) hx hb dJ6_bitCount_0f7a4_36 (by decide) ?_
  refine lv_iushr (v := (iu (((((x - ((iu x 1) &&& 1431655765)) &&& 858993459) + ((iu (x - ((iu x 1) &&& 1431655765)) 2) &&& 858993459)) + (iu (((x - ((iu x 1) &&& 1431655765)) &&& 858993459) + ((iu (x - ((iu x 1) &&& 1431655765)) 2) &&& 858993459)) 4)) &&& 252645135) 8)) hx hb dJ6_bitCount_0f7a4_38 rfl ?_
  refine lv_iadd hx hb dJ6_bitCount_0f7a4_39 ?_
  refine lv_istore_n (lv' := [(0, .int ((((((x - ((iu x 1) &&& 1431655765)) &&& 858993459) + ((iu (x - ((iu x 1) &&& 1431655765)) 2) &&& 858993459)) + (iu (((x - ((iu x 1) &&& 1431655765)) &&& 858993459) + ((iu (x - ((iu x 1) &&& 1431655765)) 2) &&& 858993459)) 4)) &&& 252645135) + (iu (((((x - ((iu x 1) &&& 1431655765)) &&& 858993459) + ((iu (x - ((iu x 1) &&& 1431655765)) 2) &&& 858993459)) + (iu (((x - ((iu x 1) &&& 1431655765)) &&& 858993459) + ((iu (x - ((iu x 1) &&& 1431655765)) 2) &&& 858993459)) 4)) &&& 252645135) 8)))]) hx hb dJ6_bitCount_0f7a4_40 rfl hl (by decide) rfl (fun ls hl => ?_)
  refine lv_iload_n hx hb dJ6_bitCount_0f7a4_41 rfl (lv_at hl 0 rfl) ?_
  refine lv_iload_n hx hb dJ6_bitCount_0f7a4_42 rfl (lv_at hl 0 rfl) ?_
  refine lv_bipush (v := 16) hx hb dJ6_bitCount_0f7a4_43 (by decide) ?_
  refine lv_iushr (v := (iu ((((((x - ((iu x 1) &&& 1431655765)) &&& 858993459) + ((iu (x - ((iu x 1) &&& 1431655765)) 2) &&& 858993459)) + (iu (((x - ((iu x 1) &&& 1431655765)) &&& 858993459) + ((iu (x - ((iu x 1) &&& 1431655765)) 2) &&& 858993459)) 4)) &&& 252645135) + (iu (((((x - ((iu x 1) &&& 1431655765)) &&& 858993459) + ((iu (x - ((iu x 1) &&& 1431655765)) 2) &&& 858993459)) + (iu (((x - ((iu x 1) &&& 1431655765)) &&& 858993459) + ((iu (x - ((iu x 1) &&& 1431655765)) 2) &&& 858993459)) 4)) &&& 252645135) 8)) 16)) hx hb dJ6_bitCount_0f7a4_45 rfl ?_
  refine lv_iadd hx hb dJ6_bitCount_0f7a4_46 ?_
  refine lv_istore_n (lv' := [(0, .int (((((((x - ((iu x 1) &&& 1431655765)) &&& 858993459) + ((iu (x - ((iu x 1) &&& 1431655765)) 2) &&& 858993459)) + (iu (((x - ((iu x 1) &&& 1431655765)) &&& 858993459) + ((iu (x - ((iu x 1) &&& 1431655765)) 2) &&& 858993459)) 4)) &&& 252645135) + (iu (((((x - ((iu x 1) &&& 1431655765)) &&& 858993459) + ((iu (x - ((iu x 1) &&& 1431655765)) 2) &&& 858993459)) + (iu (((x - ((iu x 1) &&& 1431655765)) &&& 858993459) + ((iu (x - ((iu x 1) &&& 1431655765)) 2) &&& 858993459)) 4)) &&& 252645135) 8)) + (iu ((((((x - ((iu x 1) &&& 1431655765)) &&& 858993459) + ((iu (x - ((iu x 1) &&& 1431655765)) 2) &&& 858993459)) + (iu (((x - ((iu x 1) &&& 1431655765)) &&& 858993459) + ((iu (x - ((iu x 1) &&& 1431655765)) 2) &&& 858993459)) 4)) &&& 252645135) + (iu (((((x - ((iu x 1) &&& 1431655765)) &&& 858993459) + ((iu (x - ((iu x 1) &&& 1431655765)) 2) &&& 858993459)) + (iu (((x - ((iu x 1) &&& 1431655765)) &&& 858993459) + ((iu (x - ((iu x 1) &&& 1431655765)) 2) &&& 858993459)) 4)) &&& 252645135) 8)) 16)))]) hx hb dJ6_bitCount_0f7a4_47 rfl hl (by decide) rfl (fun ls hl => ?_)
  refine lv_iload_n hx hb dJ6_bitCount_0f7a4_48 rfl (lv_at hl 0 rfl) ?_
  refine lv_bipush (v := 63) hx hb dJ6_bitCount_0f7a4_49 (by decide) ?_
  refine lv_iand hx hb dJ6_bitCount_0f7a4_51 ?_
  exact W.iret (v := ((((((((x - ((iu x 1) &&& 1431655765)) &&& 858993459) + ((iu (x - ((iu x 1) &&& 1431655765)) 2) &&& 858993459)) + (iu (((x - ((iu x 1) &&& 1431655765)) &&& 858993459) + ((iu (x - ((iu x 1) &&& 1431655765)) 2) &&& 858993459)) 4)) &&& 252645135) + (iu (((((x - ((iu x 1) &&& 1431655765)) &&& 858993459) + ((iu (x - ((iu x 1) &&& 1431655765)) 2) &&& 858993459)) + (iu (((x - ((iu x 1) &&& 1431655765)) &&& 858993459) + ((iu (x - ((iu x 1) &&& 1431655765)) 2) &&& 858993459)) 4)) &&& 252645135) 8)) + (iu ((((((x - ((iu x 1) &&& 1431655765)) &&& 858993459) + ((iu (x - ((iu x 1) &&& 1431655765)) 2) &&& 858993459)) + (iu (((x - ((iu x 1) &&& 1431655765)) &&& 858993459) + ((iu (x - ((iu x 1) &&& 1431655765)) 2) &&& 858993459)) 4)) &&& 252645135) + (iu (((((x - ((iu x 1) &&& 1431655765)) &&& 858993459) + ((iu (x - ((iu x 1) &&& 1431655765)) 2) &&& 858993459)) + (iu (((x - ((iu x 1) &&& 1431655765)) &&& 858993459) + ((iu (x - ((iu x 1) &&& 1431655765)) 2) &&& 858993459)) 4)) &&& 252645135) 8)) 16)) &&& 63)) hx hb hr (fun t ht hW => ⟨by rw [w_bitCount], ht⟩) (fun q h => absurd h List.not_mem_nil) dJ6_bitCount_0f7a4_52

set_option maxHeartbeats 4000000 in
set_option maxRecDepth 100000 in
theorem c_X2_hasCell (l : Launch) (k : KT) (a : Nat → Nat) (S : SeaT) (T : TalT) (dr : Int64) (tr : Int64) (C : ChoT) (F : (Nat → Int32)) (G : GoT) (ce : Int32)  : MR l yX2_hasCell cX2_hasCell 2 (some .boolean) (rz 0 0) k [.ref (a 1), .int ce] (xW k a S T dr tr C F G) (.int (w_hasCell (S_cells S) ce)) := by
  refine Met.ofW (cc := cX2_hasCell) (maxL := 2) (ret := (some .boolean)) (by decide) rfl ?_
  intro p e s m args below meth c s₁ B hml hv
  obtain ⟨rfl, hP, hK⟩ := hv
  have hx := B.exec
  have hb := B.bytes
  have hr := B.returns
  have hU : ∀ w ∈ wsL_law, w.before [.ref (a 1), .int ce].toArray s = true := fun w h => atoms_spec (ws := Cond.code yX2_hasCell cX2_hasCell 2 (some .boolean) :: wsL_law) B.pre w (List.mem_cons_of_mem _ h)
  have hown : s.vm.findClass RX2 = some m.cls := findClass_of_methodNamed B.named
  have hlocks := B.notSynchronized
  have hF : CF p m c cX2_hasCell 2 s [.ref (a 1), .int ce].toArray RX2 := ⟨hx, hb, hml, hown, hU⟩
  have hl := lv_entry ([.ref (a 1), .int ce] : List Value) (n := 2) (Nat.le_of_ble_eq_true rfl)
  rw [lg_entry_eq]
  generalize (lg_sl ([.ref (a 1), .int ce] : List Value) ++ List.replicate (2 - (lg_sl ([.ref (a 1), .int ce] : List Value)).length) Slot.unset).toArray = ls at hl ⊢
  have hl : lv_has ls 2 [(0, .ref (a 1)), (1, .int ce)] := hl
  refine lv_iload_n hx hb dX2_hasCell_0 rfl (lv_at hl 1 rfl) ?_
  refine lv_if_lt (tgt := 16) hx hb dX2_hasCell_1 (by decide) (fun c_1 => ?_) (fun c_1 => ?_)
  · refine lv_iconst (v := 0) hx hb dX2_hasCell_16 (by decide) ?_
    exact W.zret (v := 0) hx hb hr rfl (fun t ht hW => ⟨by rw [w_hasCell, if_pos c_1], ht⟩) (fun q h => absurd h List.not_mem_nil) dX2_hasCell_17
  · refine lv_iload_n hx hb dX2_hasCell_4 rfl (lv_at hl 1 rfl) ?_
    refine lv_aload_n hx hb dX2_hasCell_5 rfl (lv_at hl 0 rfl) ?_
    refine va_get (D := k.1) (ci := 2) (v := .int (S_cells S)) (C := RX2) (T := TX2) (N := 16) hx hb hU inlX2 hown hK.1 hP 1 rfl rfl 12 (by decide) (hU _ uF_X2_47) (fun _ h9 => h9) rfl dX2_hasCell_6 ?_
    refine xb_ge (tgt := 16) hx hb dX2_hasCell_9 (by decide) (fun c_2 => ?_) (fun c_2 => ?_)
    · refine lv_iconst (v := 0) hx hb dX2_hasCell_16 (by decide) ?_
      exact W.zret (v := 0) hx hb hr rfl (fun t ht hW => ⟨by rw [w_hasCell, if_neg c_1, if_neg c_2], ht⟩) (fun q h => absurd h List.not_mem_nil) dX2_hasCell_17
    · refine lv_iconst (v := 1) hx hb dX2_hasCell_12 (by decide) ?_
      refine lv_goto (tgt := 17) hx hb dX2_hasCell_13 (by decide) ?_
      exact W.zret (v := 1) hx hb hr rfl (fun t ht hW => ⟨by rw [w_hasCell, if_neg c_1, if_pos c_2], ht⟩) (fun q h => absurd h List.not_mem_nil) dX2_hasCell_17
end
section
/-! ===== Int32 by its bits: bt x i (the family of kit/laws/BITS, as it stands there) ===== -/
def bt (x : Int32) (i : Nat) : Bool := x.toBitVec.getLsbD i
theorem b_ext {x y : Int32} (h : ∀ i, i < 32 → bt x i = bt y i) : x = y := Int32.toBitVec_inj.mp (BitVec.eq_of_getLsbD_eq (fun i hi => h i hi))
theorem b_or (x y : Int32) (i : Nat) : bt (x ||| y) i = (bt x i || bt y i) := by unfold bt; rw [Int32.toBitVec_or, BitVec.getLsbD_or]
theorem b_and (x y : Int32) (i : Nat) : bt (x &&& y) i = (bt x i && bt y i) := by unfold bt; rw [Int32.toBitVec_and, BitVec.getLsbD_and]
theorem b_xor (x y : Int32) (i : Nat) : bt (x ^^^ y) i = (bt x i ^^ bt y i) := by unfold bt; rw [Int32.toBitVec_xor, BitVec.getLsbD_xor]
theorem b_big {x : Int32} {i : Nat} (h : 32 ≤ i) : bt x i = false := BitVec.getLsbD_of_ge _ _ h
theorem b_255 (i : Nat) : bt 255 i = decide (i < 8) := by
  rcases Nat.lt_or_ge i 32 with h | h
  · exact (by decide +kernel : ∀ i, i < 32 → bt 255 i = decide (i < 8)) i h
  · rw [b_big h, decide_eq_false (by omega)]
theorem b_65535 (i : Nat) : bt 65535 i = decide (i < 16) := by
  rcases Nat.lt_or_ge i 32 with h | h
  · exact (by decide +kernel : ∀ i, i < 32 → bt 65535 i = decide (i < 16)) i h
  · rw [b_big h, decide_eq_false (by omega)]
theorem b_m1 : ∀ i, i < 32 → bt (-1) i = true := by decide +kernel
theorem b_0 (i : Nat) : bt 0 i = false := BitVec.getLsbD_zero
theorem s_l : ∀ n, n < 32 → ((nI n &&& 31).toBitVec.smod 32).toNat = n := by decide +kernel
theorem s_u : ∀ n, n < 32 → (((nI n).toUInt32 &&& Int32.toUInt32 31).toBitVec % 32).toNat = n := by decide +kernel
theorem b_shl (n : Nat) (hn : n < 32) (x : Int32) {i : Nat} (hi : i < 32) : bt (x <<< (nI n &&& 31)) i = (decide (n ≤ i) && bt x (i - n)) := by
  unfold bt
  rw [Int32.toBitVec_shiftLeft]
  show (x.toBitVec <<< ((nI n &&& 31).toBitVec.smod 32).toNat).getLsbD i = _
  rw [s_l n hn, BitVec.getLsbD_shiftLeft]
  rcases Nat.lt_or_ge i n with h | h
  · simp [h, Nat.not_le.mpr h]
  · simp [hi, h, Nat.not_lt.mpr h]
theorem b_ushr (n : Nat) (hn : n < 32) (x : Int32) (i : Nat) : bt ((x.toUInt32 >>> ((nI n).toUInt32 &&& Int32.toUInt32 31)).toInt32) i = bt x (n + i) := by
  show (x.toUInt32 >>> ((nI n).toUInt32 &&& Int32.toUInt32 31)).toBitVec.getLsbD i = x.toUInt32.toBitVec.getLsbD (n + i)
  rw [UInt32.toBitVec_shiftRight]
  show (x.toUInt32.toBitVec >>> (((nI n).toUInt32 &&& Int32.toUInt32 31).toBitVec % 32).toNat).getLsbD i = _
  rw [s_u n hn, BitVec.getLsbD_ushiftRight]
theorem b_sshr (n : Nat) (hn : n < 32) (x : Int32) {i : Nat} (hi : i < 32) : bt (x >>> (nI n &&& 31)) i = if n + i < 32 then bt x (n + i) else bt x 31 := by
  unfold bt
  rw [Int32.toBitVec_shiftRight]
  show (x.toBitVec.sshiftRight ((nI n &&& 31).toBitVec.smod 32).toNat).getLsbD i = _
  rw [s_l n hn, BitVec.getLsbD_sshiftRight, BitVec.msb_eq_getLsbD_last]
  simp [hi]
theorem b_shl8 (x : Int32) {i : Nat} (hi : i < 32) : bt (x <<< ((8 : Int32) &&& 31)) i = (decide (8 ≤ i) && bt x (i - 8)) := b_shl 8 (by omega) x hi
theorem b_shl16 (x : Int32) {i : Nat} (hi : i < 32) : bt (x <<< ((16 : Int32) &&& 31)) i = (decide (16 ≤ i) && bt x (i - 16)) := b_shl 16 (by omega) x hi
theorem b_shl24 (x : Int32) {i : Nat} (hi : i < 32) : bt (x <<< ((24 : Int32) &&& 31)) i = (decide (24 ≤ i) && bt x (i - 24)) := b_shl 24 (by omega) x hi
theorem b_sshr8 (x : Int32) {i : Nat} (hi : i < 32) : bt (x >>> ((8 : Int32) &&& 31)) i = if 8 + i < 32 then bt x (8 + i) else bt x 31 := b_sshr 8 (by omega) x hi
/-! ===== sums, all, and the class's own test of a bit ===== -/
def sm (f : Nat → Int64) : Nat → Int64
  | 0 => 0
  | n + 1 => sm f n + f n
def al (q : Nat → Bool) : Nat → Bool
  | 0 => true
  | n + 1 => al q n && q n
theorem al_iff {q : Nat → Bool} {n : Nat} : al q n = true ↔ ∀ j, j < n → q j = true := by
  induction n with
  | zero => exact ⟨fun _ j h => absurd h (Nat.not_lt_zero j), fun _ => rfl⟩
  | succ n ih =>
    rw [al, Bool.and_eq_true, ih]
    constructor
    · intro h j hj
      rcases Nat.lt_or_ge j n with h1 | h1
      · exact h.1 j h1
      · rw [show j = n by omega]; exact h.2
    · intro h
      exact ⟨fun j hj => h j (by omega), h n (by omega)⟩
theorem al_not {q : Nat → Bool} {n j : Nat} (hj : j < n) (h : q j = false) : al q n = false := by
  cases e : al q n with
  | false => rfl
  | true => rw [al_iff.mp e j hj] at h; cases h
theorem b_1 : ∀ i, i < 32 → bt 1 i = decide (i = 0) := by decide +kernel
theorem iu_bt (x : Int32) {n : Nat} (hn : n < 32) (i : Nat) : bt (iu x (nI n)) i = bt x (n + i) := b_ushr n hn x i
theorem hb0 (x : Int32) {n : Nat} (hn : n < 32) : w_hasBit x (nI n) = 0 ↔ bt x n = false := by
  have key : (iu x (nI n) &&& 1) = 0 ↔ bt x n = false := by
    constructor
    · intro h
      have h2 : bt (iu x (nI n) &&& 1) 0 = bt 0 0 := by rw [h]
      rw [b_and, iu_bt x hn, b_0, b_1 0 (by omega)] at h2
      simpa using h2
    · intro h
      refine b_ext (fun i hi => ?_)
      rw [b_and, iu_bt x hn, b_0, b_1 i hi]
      by_cases h0 : i = 0
      · subst h0; rw [Nat.add_zero, h]; rfl
      · simp [h0]
  unfold w_hasBit
  by_cases h : (iu x (nI n) &&& 1) = 0
  · rw [if_pos h]; exact ⟨fun _ => key.mp h, fun _ => rfl⟩
  · rw [if_neg h]; exact ⟨fun q => absurd q (by decide), fun q => absurd (key.mpr q) h⟩
theorem hb1 (x : Int32) {n : Nat} (hn : n < 32) : ¬ w_hasBit x (nI n) = 0 ↔ bt x n = true := by
  rw [hb0 x hn]; cases bt x n <;> simp
theorem nI_lit8 (i : Nat) : nI i * 8 = nI (i * 8) := pk_mul i 8
theorem ix8 (i j : Nat) : nI i * 8 + nI j = nI (i * 8 + j) := by rw [show (nI i * 8 : Int32) = nI (i * 8) from pk_mul i 8, nI_add]
theorem ix4 (i j : Nat) : nI i * 4 + nI j = nI (i * 4 + j) := by rw [show (nI i * 4 : Int32) = nI (i * 4) from pk_mul i 4, nI_add]
theorem ix24 (i j : Nat) : nI i * 24 + nI j = nI (i * 24 + j) := by rw [show (nI i * 24 : Int32) = nI (i * 24) from pk_mul i 24, nI_add]
theorem ix24r (i j : Nat) : 24 * nI i + nI j = nI (24 * i + j) := by rw [show (24 * nI i : Int32) = nI (24 * i) from pk_mul 24 i, nI_add]
end
section
def w_X0_clear_C (C : ChoT) : ChoT := (sC_price (sC_cells (sC_there C 0) 0) (-1))
set_option maxHeartbeats 4000000 in
set_option maxRecDepth 100000 in
theorem c_X0_clear (l : Launch) (k : KT) (a : Nat → Nat) (S : SeaT) (T : TalT) (dr : Int64) (tr : Int64) (C : ChoT) (F : (Nat → Int32)) (G : GoT)   : MW l yX0_clear cX0_clear 1 none (rz 0 0) k [.ref (a 16)] (xW k a S T dr tr C F G) none (xW k a S T dr tr (w_X0_clear_C C) F G) := by
  intro sz
  refine Met.ofW (cc := cX0_clear) (maxL := 1) (ret := none) (by decide) rfl ?_
  intro p e s m args below meth c s₁ B hml hv
  obtain ⟨rfl, hsz, hP, hK, hD0⟩ := hv
  have hx := B.exec
  have hb := B.bytes
  have hr := B.returns
  have hU : ∀ w ∈ wsL_law, w.before [.ref (a 16)].toArray s = true := fun w h => atoms_spec (ws := Cond.code yX0_clear cX0_clear 1 none :: wsL_law) B.pre w (List.mem_cons_of_mem _ h)
  have hown : s.vm.findClass RX0 = some m.cls := findClass_of_methodNamed B.named
  have hlocks := B.notSynchronized
  have hF : CF p m c cX0_clear 1 s [.ref (a 16)].toArray RX0 := ⟨hx, hb, hml, hown, hU⟩
  subst hsz
  have hD := hD0.self (sz := s.heap.size)
  generalize hAe : va_A (xW k a S T dr tr C F G) s.heap.size = A at hD ⊢
  have hA : ∀ q : Nat, s.heap.size ≤ q → A q := fun q h => by rw [← hAe]; exact Or.inr h
  have hS : va_S A s.heap s.heap [] := va_S.rf
  have hl := lv_entry ([.ref (a 16)] : List Value) (n := 1) (Nat.le_of_ble_eq_true rfl)
  rw [lg_entry_eq]
  generalize (lg_sl ([.ref (a 16)] : List Value) ++ List.replicate (1 - (lg_sl ([.ref (a 16)] : List Value)).length) Slot.unset).toArray = ls at hl ⊢
  have hl : lv_has ls 1 [(0, .ref (a 16))] := hl
  refine lv_aload_n hx hb dX0_clear_0 rfl (lv_at hl 0 rfl) ?_
  refine lv_iconst (v := 0) hx hb dX0_clear_1 (by decide) ?_
  refine va_put (D := k.1) (ci := 0) (v := .int 0) (ty := .boolean) (C := RX0) (T := TX0) (N := 3) hx hb hU inlX0 tyX0 tyX0_ok nmX0 hown hK.1 hP hD hS 16 rfl rfl 0 (by decide) (hU _ uF_X0_17) (fun _ h9 => h9) rfl (by decide +kernel) rfl rfl (Nat.le_of_ble_eq_true rfl) dX0_clear_2 (fun H locs hP hD hS => ?_)
  have hP := pz_x_16_0 k a S T dr tr C F G 0 hP
  have hD := dz_x_16_0 k a S T dr tr C F G 0 hD
  refine lv_aload_n hx hb dX0_clear_5 rfl (lv_at hl 0 rfl) ?_
  refine lv_iconst (v := 0) hx hb dX0_clear_6 (by decide) ?_
  refine va_put (D := k.1) (ci := 0) (v := .int 0) (ty := .int) (C := RX0) (T := TX0) (N := 3) hx hb hU inlX0 tyX0 tyX0_ok nmX0 hown hK.1 hP hD hS 16 rfl rfl 1 (by decide) (hU _ uF_X0_21) (fun _ h9 => h9) rfl (by decide +kernel) rfl rfl (Nat.le_of_ble_eq_true rfl) dX0_clear_7 (fun H locs hP hD hS => ?_)
  have hP := pz_x_16_1 k a S T dr tr (sC_there C 0) F G 0 hP
  have hD := dz_x_16_1 k a S T dr tr (sC_there C 0) F G 0 hD
  refine lv_aload_n hx hb dX0_clear_10 rfl (lv_at hl 0 rfl) ?_
  refine lv_ldc2 hx hb hown (hU _ uK_X0_9) dX0_clear_11 ?_
  refine va_put (D := k.1) (ci := 0) (v := .long (-1)) (ty := .long) (C := RX0) (T := TX0) (N := 3) hx hb hU inlX0 tyX0 tyX0_ok nmX0 hown hK.1 hP hD hS 16 rfl rfl 2 (by decide) (hU _ uF_X0_11) (fun _ h9 => h9) rfl (by decide +kernel) rfl rfl (Nat.le_of_ble_eq_true rfl) dX0_clear_14 (fun H locs hP hD hS => ?_)
  have hP := pz_x_16_2 k a S T dr tr (sC_cells (sC_there C 0) 0) F G (-1) hP
  have hD := dz_x_16_2 k a S T dr tr (sC_cells (sC_there C 0) 0) F G (-1) hD
  have hP9 : va_P k.1 vwCl (xW k a S T dr tr (w_X0_clear_C C) F G) H := by rw [w_X0_clear_C]; exact hP
  have hD9 : va_D A (xW k a S T dr tr (w_X0_clear_C C) F G) := by rw [w_X0_clear_C]; exact hD
  exact W.vret hx hb hr (fun t ht hW => ⟨⟨rfl, by rw [ht]; exact hP9, hD9⟩, hS.F ht⟩) hS.2.2 dX0_clear_17

def w_X0_take_C (C : ChoT) (set : Int32) (cost : Int64) : ChoT := (sC_price (sC_cells (sC_there C 1) set) cost)
set_option maxHeartbeats 4000000 in
set_option maxRecDepth 100000 in
theorem c_X0_take (l : Launch) (k : KT) (a : Nat → Nat) (S : SeaT) (T : TalT) (dr : Int64) (tr : Int64) (C : ChoT) (F : (Nat → Int32)) (G : GoT) (set : Int32) (cost : Int64)  : MW l yX0_take cX0_take 4 none (rz 0 0) k [.ref (a 16), .int set, .long cost] (xW k a S T dr tr C F G) none (xW k a S T dr tr (w_X0_take_C C set cost) F G) := by
  intro sz
  refine Met.ofW (cc := cX0_take) (maxL := 4) (ret := none) (by decide) rfl ?_
  intro p e s m args below meth c s₁ B hml hv
  obtain ⟨rfl, hsz, hP, hK, hD0⟩ := hv
  have hx := B.exec
  have hb := B.bytes
  have hr := B.returns
  have hU : ∀ w ∈ wsL_law, w.before [.ref (a 16), .int set, .long cost].toArray s = true := fun w h => atoms_spec (ws := Cond.code yX0_take cX0_take 4 none :: wsL_law) B.pre w (List.mem_cons_of_mem _ h)
  have hown : s.vm.findClass RX0 = some m.cls := findClass_of_methodNamed B.named
  have hlocks := B.notSynchronized
  have hF : CF p m c cX0_take 4 s [.ref (a 16), .int set, .long cost].toArray RX0 := ⟨hx, hb, hml, hown, hU⟩
  subst hsz
  have hD := hD0.self (sz := s.heap.size)
  generalize hAe : va_A (xW k a S T dr tr C F G) s.heap.size = A at hD ⊢
  have hA : ∀ q : Nat, s.heap.size ≤ q → A q := fun q h => by rw [← hAe]; exact Or.inr h
  have hS : va_S A s.heap s.heap [] := va_S.rf
  have hl := lv_entry ([.ref (a 16), .int set, .long cost] : List Value) (n := 4) (Nat.le_of_ble_eq_true rfl)
  rw [lg_entry_eq]
  generalize (lg_sl ([.ref (a 16), .int set, .long cost] : List Value) ++ List.replicate (4 - (lg_sl ([.ref (a 16), .int set, .long cost] : List Value)).length) Slot.unset).toArray = ls at hl ⊢
  have hl : lv_has ls 4 [(0, .ref (a 16)), (1, .int set), (2, .long cost)] := hl
  refine lv_aload_n hx hb dX0_take_0 rfl (lv_at hl 0 rfl) ?_
  refine lv_iconst (v := 1) hx hb dX0_take_1 (by decide) ?_
  refine va_put (D := k.1) (ci := 0) (v := .int 1) (ty := .boolean) (C := RX0) (T := TX0) (N := 3) hx hb hU inlX0 tyX0 tyX0_ok nmX0 hown hK.1 hP hD hS 16 rfl rfl 0 (by decide) (hU _ uF_X0_17) (fun _ h9 => h9) rfl (by decide +kernel) rfl rfl (Nat.le_of_ble_eq_true rfl) dX0_take_2 (fun H locs hP hD hS => ?_)
  have hP := pz_x_16_0 k a S T dr tr C F G 1 hP
  have hD := dz_x_16_0 k a S T dr tr C F G 1 hD
  refine lv_aload_n hx hb dX0_take_5 rfl (lv_at hl 0 rfl) ?_
  refine lv_iload_n hx hb dX0_take_6 rfl (lv_at hl 1 rfl) ?_
  refine va_put (D := k.1) (ci := 0) (v := .int set) (ty := .int) (C := RX0) (T := TX0) (N := 3) hx hb hU inlX0 tyX0 tyX0_ok nmX0 hown hK.1 hP hD hS 16 rfl rfl 1 (by decide) (hU _ uF_X0_21) (fun _ h9 => h9) rfl (by decide +kernel) rfl rfl (Nat.le_of_ble_eq_true rfl) dX0_take_7 (fun H locs hP hD hS => ?_)
  have hP := pz_x_16_1 k a S T dr tr (sC_there C 1) F G set hP
  have hD := dz_x_16_1 k a S T dr tr (sC_there C 1) F G set hD
  refine lv_aload_n hx hb dX0_take_10 rfl (lv_at hl 0 rfl) ?_
  refine lv_lload_n hx hb dX0_take_11 rfl (lv_at hl 2 rfl) ?_
  refine va_put (D := k.1) (ci := 0) (v := .long cost) (ty := .long) (C := RX0) (T := TX0) (N := 3) hx hb hU inlX0 tyX0 tyX0_ok nmX0 hown hK.1 hP hD hS 16 rfl rfl 2 (by decide) (hU _ uF_X0_11) (fun _ h9 => h9) rfl (by decide +kernel) rfl rfl (Nat.le_of_ble_eq_true rfl) dX0_take_12 (fun H locs hP hD hS => ?_)
  have hP := pz_x_16_2 k a S T dr tr (sC_cells (sC_there C 1) set) F G cost hP
  have hD := dz_x_16_2 k a S T dr tr (sC_cells (sC_there C 1) set) F G cost hD
  have hP9 : va_P k.1 vwCl (xW k a S T dr tr (w_X0_take_C C set cost) F G) H := by rw [w_X0_take_C]; exact hP
  have hD9 : va_D A (xW k a S T dr tr (w_X0_take_C C set cost) F G) := by rw [w_X0_take_C]; exact hD
  exact W.vret hx hb hr (fun t ht hW => ⟨⟨rfl, by rw [ht]; exact hP9, hD9⟩, hS.F ht⟩) hS.2.2 dX0_take_15

def w_X0_isBeatenBy (C : ChoT) (set : Int32) (cost : Int64) : Int32 := if (C_there C) = 0 then 1 else if cost = (C_price C) then if ((w_bitCount set) - (w_bitCount (C_cells C))) = 0 then if (((set ^^^ (C_cells C)) &&& (-(set ^^^ (C_cells C)))) &&& set) = 0 then 0 else 1 else if ((w_bitCount set) - (w_bitCount (C_cells C))) < 0 then 1 else 0 else if cost < (C_price C) then 1 else 0
set_option maxHeartbeats 4000000 in
set_option maxRecDepth 100000 in
theorem c_X0_isBeatenBy (l : Launch) (k : KT) (a : Nat → Nat) (S : SeaT) (T : TalT) (dr : Int64) (tr : Int64) (C : ChoT) (F : (Nat → Int32)) (G : GoT) (set : Int32) (cost : Int64)  : MR l yX0_isBeatenBy cX0_isBeatenBy 6 (some .boolean) (rz 1 20) k [.ref (a 16), .int set, .long cost] (xW k a S T dr tr C F G) (.int (w_X0_isBeatenBy C set cost)) := by
  refine Met.ofW (cc := cX0_isBeatenBy) (maxL := 6) (ret := (some .boolean)) (by decide) rfl ?_
  intro p e s m args below meth c s₁ B hml hv
  obtain ⟨rfl, hP, hK⟩ := hv
  have hx := B.exec
  have hb := B.bytes
  have hr := B.returns
  have hU : ∀ w ∈ wsL_law, w.before [.ref (a 16), .int set, .long cost].toArray s = true := fun w h => atoms_spec (ws := Cond.code yX0_isBeatenBy cX0_isBeatenBy 6 (some .boolean) :: wsL_law) B.pre w (List.mem_cons_of_mem _ h)
  have hown : s.vm.findClass RX0 = some m.cls := findClass_of_methodNamed B.named
  have hlocks := B.notSynchronized
  have hF : CF p m c cX0_isBeatenBy 6 s [.ref (a 16), .int set, .long cost].toArray RX0 := ⟨hx, hb, hml, hown, hU⟩
  have hl := lv_entry ([.ref (a 16), .int set, .long cost] : List Value) (n := 6) (Nat.le_of_ble_eq_true rfl)
  rw [lg_entry_eq]
  generalize (lg_sl ([.ref (a 16), .int set, .long cost] : List Value) ++ List.replicate (6 - (lg_sl ([.ref (a 16), .int set, .long cost] : List Value)).length) Slot.unset).toArray = ls at hl ⊢
  have hl : lv_has ls 6 [(0, .ref (a 16)), (1, .int set), (2, .long cost)] := hl
  refine lv_aload_n hx hb dX0_isBeatenBy_0 rfl (lv_at hl 0 rfl) ?_
  refine va_get (D := k.1) (ci := 0) (v := .int (C_there C)) (C := RX0) (T := TX0) (N := 3) hx hb hU inlX0 hown hK.1 hP 16 rfl rfl 0 (by decide) (hU _ uF_X0_17) (fun _ h9 => h9) rfl dX0_isBeatenBy_1 ?_
  refine lv_if_ne (tgt := 9) hx hb dX0_isBeatenBy_4 (by decide) (fun c_1 => ?_) (fun c_1 => ?_)
  · refine lv_lload_n hx hb dX0_isBeatenBy_9 rfl (lv_at hl 2 rfl) ?_
    refine lv_aload_n hx hb dX0_isBeatenBy_10 rfl (lv_at hl 0 rfl) ?_
    refine va_get (D := k.1) (ci := 0) (v := .long (C_price C)) (C := RX0) (T := TX0) (N := 3) hx hb hU inlX0 hown hK.1 hP 16 rfl rfl 2 (by decide) (hU _ uF_X0_11) (fun _ h9 => h9) rfl dX0_isBeatenBy_11 ?_
    refine xl_eq (tgt := 33) hx hb dX0_isBeatenBy_14 dX0_isBeatenBy_15 (by decide) (fun c_2 => ?_) (fun c_2 => ?_)
    · refine lv_iload_n hx hb dX0_isBeatenBy_33 rfl (lv_at hl 1 rfl) ?_
      refine rcS (n := 1) (As := [.int set]) (rest := []) hF (c_J6_bitCount_0f7a4 l k set) (hP.sub (ws' := []) [] rfl) hK uC_J6_bitCount_0f7a4 uN_J6 uM_X0_25 uS_J6_bitCount_0f7a4 (by decide +kernel) rfl ⟨Nat.le_of_ble_eq_true rfl, Nat.le_of_ble_eq_true rfl⟩ ⟨Nat.zero_le _, Nat.zero_le _⟩ hl.1 rfl (Nat.le_of_ble_eq_true rfl) dX0_isBeatenBy_34 ?_
      refine lv_aload_n hx hb dX0_isBeatenBy_37 rfl (lv_at hl 0 rfl) ?_
      refine va_get (D := k.1) (ci := 0) (v := .int (C_cells C)) (C := RX0) (T := TX0) (N := 3) hx hb hU inlX0 hown hK.1 hP 16 rfl rfl 1 (by decide) (hU _ uF_X0_21) (fun _ h9 => h9) rfl dX0_isBeatenBy_38 ?_
      refine rcS (n := 1) (As := [.int (C_cells C)]) (rest := [.int (w_bitCount set)]) hF (c_J6_bitCount_0f7a4 l k (C_cells C)) (hP.sub (ws' := []) [] rfl) hK uC_J6_bitCount_0f7a4 uN_J6 uM_X0_25 uS_J6_bitCount_0f7a4 (by decide +kernel) rfl ⟨Nat.le_of_ble_eq_true rfl, Nat.le_of_ble_eq_true rfl⟩ ⟨Nat.zero_le _, Nat.zero_le _⟩ hl.1 rfl (Nat.le_of_ble_eq_true rfl) dX0_isBeatenBy_41 ?_
      refine lv_isub hx hb dX0_isBeatenBy_44 ?_
      refine lv_istore (lv' := [(4, .int ((w_bitCount set) - (w_bitCount (C_cells C)))), (0, .ref (a 16)), (1, .int set), (2, .long cost)]) hx hb dX0_isBeatenBy_45 hl (by decide) rfl (fun ls hl => ?_)
      refine lv_iload_n hx hb dX0_isBeatenBy_47 rfl (lv_at hl 2 rfl) ?_
      refine lv_aload_n hx hb dX0_isBeatenBy_48 rfl (lv_at hl 1 rfl) ?_
      refine va_get (D := k.1) (ci := 0) (v := .int (C_cells C)) (C := RX0) (T := TX0) (N := 3) hx hb hU inlX0 hown hK.1 hP 16 rfl rfl 1 (by decide) (hU _ uF_X0_21) (fun _ h9 => h9) rfl dX0_isBeatenBy_49 ?_
      refine lv_ixor hx hb dX0_isBeatenBy_52 ?_
      refine lv_istore (lv' := [(5, .int (set ^^^ (C_cells C))), (4, .int ((w_bitCount set) - (w_bitCount (C_cells C)))), (0, .ref (a 16)), (1, .int set), (2, .long cost)]) hx hb dX0_isBeatenBy_53 hl (by decide) rfl (fun ls hl => ?_)
      refine lv_iload hx hb dX0_isBeatenBy_55 (lv_at hl 1 rfl) ?_
      refine lv_if_eq (tgt := 73) hx hb dX0_isBeatenBy_57 (by decide) (fun c_3 => ?_) (fun c_3 => ?_)
      · refine lv_iload hx hb dX0_isBeatenBy_73 (lv_at hl 0 rfl) ?_
        refine lv_iload hx hb dX0_isBeatenBy_75 (lv_at hl 0 rfl) ?_
        refine lv_ineg hx hb dX0_isBeatenBy_77 ?_
        refine lv_iand hx hb dX0_isBeatenBy_78 ?_
        refine lv_iload_n hx hb dX0_isBeatenBy_79 rfl (lv_at hl 3 rfl) ?_
        refine lv_iand hx hb dX0_isBeatenBy_80 ?_
        refine lv_if_eq (tgt := 88) hx hb dX0_isBeatenBy_81 (by decide) (fun c_4 => ?_) (fun c_4 => ?_)
        · refine lv_iconst (v := 0) hx hb dX0_isBeatenBy_88 (by decide) ?_
          exact W.zret (v := 0) hx hb hr rfl (fun t ht hW => ⟨by rw [w_X0_isBeatenBy, if_neg c_1, if_pos c_2, if_pos c_3, if_pos c_4], ht⟩) (fun q h => absurd h List.not_mem_nil) dX0_isBeatenBy_89
        · refine lv_iconst (v := 1) hx hb dX0_isBeatenBy_84 (by decide) ?_
          refine lv_goto (tgt := 89) hx hb dX0_isBeatenBy_85 (by decide) ?_
          exact W.zret (v := 1) hx hb hr rfl (fun t ht hW => ⟨by rw [w_X0_isBeatenBy, if_neg c_1, if_pos c_2, if_pos c_3, if_neg c_4], ht⟩) (fun q h => absurd h List.not_mem_nil) dX0_isBeatenBy_89
      · refine lv_iload hx hb dX0_isBeatenBy_60 (lv_at hl 1 rfl) ?_
        refine xz_ge (tgt := 69) hx hb dX0_isBeatenBy_62 (by decide) (fun c_5 => ?_) (fun c_5 => ?_)
        · refine lv_iconst (v := 0) hx hb dX0_isBeatenBy_69 (by decide) ?_
          refine lv_goto (tgt := 89) hx hb dX0_isBeatenBy_70 (by decide) ?_
          exact W.zret (v := 0) hx hb hr rfl (fun t ht hW => ⟨by rw [w_X0_isBeatenBy, if_neg c_1, if_pos c_2, if_neg c_3, if_neg c_5], ht⟩) (fun q h => absurd h List.not_mem_nil) dX0_isBeatenBy_89
        · refine lv_iconst (v := 1) hx hb dX0_isBeatenBy_65 (by decide) ?_
          refine lv_goto (tgt := 89) hx hb dX0_isBeatenBy_66 (by decide) ?_
          exact W.zret (v := 1) hx hb hr rfl (fun t ht hW => ⟨by rw [w_X0_isBeatenBy, if_neg c_1, if_pos c_2, if_neg c_3, if_pos c_5], ht⟩) (fun q h => absurd h List.not_mem_nil) dX0_isBeatenBy_89
    · refine lv_lload_n hx hb dX0_isBeatenBy_18 rfl (lv_at hl 2 rfl) ?_
      refine lv_aload_n hx hb dX0_isBeatenBy_19 rfl (lv_at hl 0 rfl) ?_
      refine va_get (D := k.1) (ci := 0) (v := .long (C_price C)) (C := RX0) (T := TX0) (N := 3) hx hb hU inlX0 hown hK.1 hP 16 rfl rfl 2 (by decide) (hU _ uF_X0_11) (fun _ h9 => h9) rfl dX0_isBeatenBy_20 ?_
      refine xl_ge (tgt := 31) hx hb dX0_isBeatenBy_23 dX0_isBeatenBy_24 (by decide) (fun c_6 => ?_) (fun c_6 => ?_)
      · refine lv_iconst (v := 0) hx hb dX0_isBeatenBy_31 (by decide) ?_
        exact W.zret (v := 0) hx hb hr rfl (fun t ht hW => ⟨by rw [w_X0_isBeatenBy, if_neg c_1, if_neg c_2, if_neg c_6], ht⟩) (fun q h => absurd h List.not_mem_nil) dX0_isBeatenBy_32
      · refine lv_iconst (v := 1) hx hb dX0_isBeatenBy_27 (by decide) ?_
        refine lv_goto (tgt := 32) hx hb dX0_isBeatenBy_28 (by decide) ?_
        exact W.zret (v := 1) hx hb hr rfl (fun t ht hW => ⟨by rw [w_X0_isBeatenBy, if_neg c_1, if_neg c_2, if_pos c_6], ht⟩) (fun q h => absurd h List.not_mem_nil) dX0_isBeatenBy_32
  · refine lv_iconst (v := 1) hx hb dX0_isBeatenBy_7 (by decide) ?_
    exact W.zret (v := 1) hx hb hr rfl (fun t ht hW => ⟨by rw [w_X0_isBeatenBy, if_pos c_1], ht⟩) (fun q h => absurd h List.not_mem_nil) dX0_isBeatenBy_8

def w_X1_start_dr (seed : Int64) : Int64 := if seed = 0 then 88172645463325252 else seed
set_option maxHeartbeats 4000000 in
set_option maxRecDepth 100000 in
theorem c_X1_start (l : Launch) (k : KT) (a : Nat → Nat) (dr : Int64) (seed : Int64)  : MW l yX1_start cX1_start 3 none (rz 0 0) k [.ref (a 0), .long seed] (dW k a dr) none (dW k a (w_X1_start_dr seed)) := by
  intro sz
  refine Met.ofW (cc := cX1_start) (maxL := 3) (ret := none) (by decide) rfl ?_
  intro p e s m args below meth c s₁ B hml hv
  obtain ⟨rfl, hsz, hP, hK, hD0⟩ := hv
  have hx := B.exec
  have hb := B.bytes
  have hr := B.returns
  have hU : ∀ w ∈ wsL_law, w.before [.ref (a 0), .long seed].toArray s = true := fun w h => atoms_spec (ws := Cond.code yX1_start cX1_start 3 none :: wsL_law) B.pre w (List.mem_cons_of_mem _ h)
  have hown : s.vm.findClass RX1 = some m.cls := findClass_of_methodNamed B.named
  have hlocks := B.notSynchronized
  have hF : CF p m c cX1_start 3 s [.ref (a 0), .long seed].toArray RX1 := ⟨hx, hb, hml, hown, hU⟩
  subst hsz
  have hD := hD0.self (sz := s.heap.size)
  generalize hAe : va_A (dW k a dr) s.heap.size = A at hD ⊢
  have hA : ∀ q : Nat, s.heap.size ≤ q → A q := fun q h => by rw [← hAe]; exact Or.inr h
  have hS : va_S A s.heap s.heap [] := va_S.rf
  have hl := lv_entry ([.ref (a 0), .long seed] : List Value) (n := 3) (Nat.le_of_ble_eq_true rfl)
  rw [lg_entry_eq]
  generalize (lg_sl ([.ref (a 0), .long seed] : List Value) ++ List.replicate (3 - (lg_sl ([.ref (a 0), .long seed] : List Value)).length) Slot.unset).toArray = ls at hl ⊢
  have hl : lv_has ls 3 [(0, .ref (a 0)), (1, .long seed)] := hl
  refine lv_aload_n hx hb dX1_start_0 rfl (lv_at hl 0 rfl) ?_
  refine lv_lload_n hx hb dX1_start_1 rfl (lv_at hl 1 rfl) ?_
  refine lv_lconst (v := 0) hx hb dX1_start_2 (by decide) ?_
  refine xl_ne (tgt := 13) hx hb dX1_start_3 dX1_start_4 (by decide) (fun c_1 => ?_) (fun c_1 => ?_)
  · refine lv_lload_n hx hb dX1_start_13 rfl (lv_at hl 1 rfl) ?_
    refine va_put (D := k.1) (ci := 1) (v := .long seed) (ty := .long) (C := RX1) (T := TX1) (N := 1) hx hb hU inlX1 tyX1 tyX1_ok nmX1 hown hK.1 hP hD hS 0 rfl rfl 0 (by decide) (hU _ uF_X1_11) (fun _ h9 => h9) rfl (by decide +kernel) rfl rfl (Nat.le_of_ble_eq_true rfl) dX1_start_14 (fun H locs hP hD hS => ?_)
    have hP := pz_d_0_0 k a dr seed hP
    have hD := dz_d_0_0 k a dr seed hD
    have hP9 : va_P k.1 vwCl (dW k a (w_X1_start_dr seed)) H := by rw [w_X1_start_dr, if_neg c_1]; exact hP
    have hD9 : va_D A (dW k a (w_X1_start_dr seed)) := by rw [w_X1_start_dr, if_neg c_1]; exact hD
    exact W.vret hx hb hr (fun t ht hW => ⟨⟨rfl, by rw [ht]; exact hP9, hD9⟩, hS.F ht⟩) hS.2.2 dX1_start_17
  · refine lv_ldc2 hx hb hown (hU _ uK_X1_9) dX1_start_7 ?_
    refine lv_goto (tgt := 14) hx hb dX1_start_10 (by decide) ?_
    refine va_put (D := k.1) (ci := 1) (v := .long 88172645463325252) (ty := .long) (C := RX1) (T := TX1) (N := 1) hx hb hU inlX1 tyX1 tyX1_ok nmX1 hown hK.1 hP hD hS 0 rfl rfl 0 (by decide) (hU _ uF_X1_11) (fun _ h9 => h9) rfl (by decide +kernel) rfl rfl (Nat.le_of_ble_eq_true rfl) dX1_start_14 (fun H locs hP hD hS => ?_)
    have hP := pz_d_0_0 k a dr 88172645463325252 hP
    have hD := dz_d_0_0 k a dr 88172645463325252 hD
    have hP9 : va_P k.1 vwCl (dW k a (w_X1_start_dr seed)) H := by rw [w_X1_start_dr, if_pos c_1]; exact hP
    have hD9 : va_D A (dW k a (w_X1_start_dr seed)) := by rw [w_X1_start_dr, if_pos c_1]; exact hD
    exact W.vret hx hb hr (fun t ht hW => ⟨⟨rfl, by rw [ht]; exact hP9, hD9⟩, hS.F ht⟩) hS.2.2 dX1_start_17

def w_X1_next (dr : Int64) : Int64 := (lu (((dr ^^^ (lh dr 13)) ^^^ (lu (dr ^^^ (lh dr 13)) 7)) ^^^ (lh ((dr ^^^ (lh dr 13)) ^^^ (lu (dr ^^^ (lh dr 13)) 7)) 17)) 1)
def w_X1_next_dr (dr : Int64) : Int64 := (((dr ^^^ (lh dr 13)) ^^^ (lu (dr ^^^ (lh dr 13)) 7)) ^^^ (lh ((dr ^^^ (lh dr 13)) ^^^ (lu (dr ^^^ (lh dr 13)) 7)) 17))
set_option maxHeartbeats 4000000 in
set_option maxRecDepth 100000 in
theorem c_X1_next (l : Launch) (k : KT) (a : Nat → Nat) (dr : Int64)   : MW l yX1_next cX1_next 1 (some .long) (rz 0 0) k [.ref (a 0)] (dW k a dr) (some (.long (w_X1_next dr))) (dW k a (w_X1_next_dr dr)) := by
  intro sz
  refine Met.ofW (cc := cX1_next) (maxL := 1) (ret := (some .long)) (by decide) rfl ?_
  intro p e s m args below meth c s₁ B hml hv
  obtain ⟨rfl, hsz, hP, hK, hD0⟩ := hv
  have hx := B.exec
  have hb := B.bytes
  have hr := B.returns
  have hU : ∀ w ∈ wsL_law, w.before [.ref (a 0)].toArray s = true := fun w h => atoms_spec (ws := Cond.code yX1_next cX1_next 1 (some .long) :: wsL_law) B.pre w (List.mem_cons_of_mem _ h)
  have hown : s.vm.findClass RX1 = some m.cls := findClass_of_methodNamed B.named
  have hlocks := B.notSynchronized
  have hF : CF p m c cX1_next 1 s [.ref (a 0)].toArray RX1 := ⟨hx, hb, hml, hown, hU⟩
  subst hsz
  have hD := hD0.self (sz := s.heap.size)
  generalize hAe : va_A (dW k a dr) s.heap.size = A at hD ⊢
  have hA : ∀ q : Nat, s.heap.size ≤ q → A q := fun q h => by rw [← hAe]; exact Or.inr h
  have hS : va_S A s.heap s.heap [] := va_S.rf
  have hl := lv_entry ([.ref (a 0)] : List Value) (n := 1) (Nat.le_of_ble_eq_true rfl)
  rw [lg_entry_eq]
  generalize (lg_sl ([.ref (a 0)] : List Value) ++ List.replicate (1 - (lg_sl ([.ref (a 0)] : List Value)).length) Slot.unset).toArray = ls at hl ⊢
  have hl : lv_has ls 1 [(0, .ref (a 0))] := hl
  refine lv_aload_n hx hb dX1_next_0 rfl (lv_at hl 0 rfl) ?_
  refine lv_dup hx hb dX1_next_1 rfl ?_
  refine va_get (D := k.1) (ci := 1) (v := .long dr) (C := RX1) (T := TX1) (N := 1) hx hb hU inlX1 hown hK.1 hP 0 rfl rfl 0 (by decide) (hU _ uF_X1_11) (fun _ h9 => h9) rfl dX1_next_2 ?_
  refine lv_aload_n hx hb dX1_next_5 rfl (lv_at hl 0 rfl) ?_
  refine va_get (D := k.1) (ci := 1) (v := .long dr) (C := RX1) (T := TX1) (N := 1) hx hb hU inlX1 hown hK.1 hP 0 rfl rfl 0 (by decide) (hU _ uF_X1_11) (fun _ h9 => h9) rfl dX1_next_6 ?_
  refine lv_bipush (v := 13) hx hb dX1_next_9 (by decide) ?_
  refine lv_lshl (v := (lh dr 13)) hx hb dX1_next_11 rfl ?_
  refine lv_lxor hx hb dX1_next_12 ?_
  refine va_put (D := k.1) (ci := 1) (v := .long (dr ^^^ (lh dr 13))) (ty := .long) (C := RX1) (T := TX1) (N := 1) hx hb hU inlX1 tyX1 tyX1_ok nmX1 hown hK.1 hP hD hS 0 rfl rfl 0 (by decide) (hU _ uF_X1_11) (fun _ h9 => h9) rfl (by decide +kernel) rfl rfl (Nat.le_of_ble_eq_true rfl) dX1_next_13 (fun H locs hP hD hS => ?_)
  have hP := pz_d_0_0 k a dr (dr ^^^ (lh dr 13)) hP
  have hD := dz_d_0_0 k a dr (dr ^^^ (lh dr 13)) hD
  refine lv_aload_n hx hb dX1_next_16 rfl (lv_at hl 0 rfl) ?_
  refine lv_dup hx hb dX1_next_17 rfl ?_
  refine va_get (D := k.1) (ci := 1) (v := .long (dr ^^^ (lh dr 13))) (C := RX1) (T := TX1) (N := 1) hx hb hU inlX1 hown hK.1 hP 0 rfl rfl 0 (by decide) (hU _ uF_X1_11) (fun _ h9 => h9) rfl dX1_next_18 ?_
  refine lv_aload_n hx hb dX1_next_21 rfl (lv_at hl 0 rfl) ?_
  refine va_get (D := k.1) (ci := 1) (v := .long (dr ^^^ (lh dr 13))) (C := RX1) (T := TX1) (N := 1) hx hb hU inlX1 hown hK.1 hP 0 rfl rfl 0 (by decide) (hU _ uF_X1_11) (fun _ h9 => h9) rfl dX1_next_22 ?_
  refine lv_bipush (v := 7) hx hb dX1_next_25 (by decide) ?_
  refine lv_lushr (v := (lu (dr ^^^ (lh dr 13)) 7)) hx hb dX1_next_27 rfl ?_
  refine lv_lxor hx hb dX1_next_28 ?_
  refine va_put (D := k.1) (ci := 1) (v := .long ((dr ^^^ (lh dr 13)) ^^^ (lu (dr ^^^ (lh dr 13)) 7))) (ty := .long) (C := RX1) (T := TX1) (N := 1) hx hb hU inlX1 tyX1 tyX1_ok nmX1 hown hK.1 hP hD hS 0 rfl rfl 0 (by decide) (hU _ uF_X1_11) (fun _ h9 => h9) rfl (by decide +kernel) rfl rfl (Nat.le_of_ble_eq_true rfl) dX1_next_29 (fun H locs hP hD hS => ?_)
  have hP := pz_d_0_0 k a (dr ^^^ (lh dr 13)) ((dr ^^^ (lh dr 13)) ^^^ (lu (dr ^^^ (lh dr 13)) 7)) hP
  have hD := dz_d_0_0 k a (dr ^^^ (lh dr 13)) ((dr ^^^ (lh dr 13)) ^^^ (lu (dr ^^^ (lh dr 13)) 7)) hD
  refine lv_aload_n hx hb dX1_next_32 rfl (lv_at hl 0 rfl) ?_
  refine lv_dup hx hb dX1_next_33 rfl ?_
  refine va_get (D := k.1) (ci := 1) (v := .long ((dr ^^^ (lh dr 13)) ^^^ (lu (dr ^^^ (lh dr 13)) 7))) (C := RX1) (T := TX1) (N := 1) hx hb hU inlX1 hown hK.1 hP 0 rfl rfl 0 (by decide) (hU _ uF_X1_11) (fun _ h9 => h9) rfl dX1_next_34 ?_
  refine lv_aload_n hx hb dX1_next_37 rfl (lv_at hl 0 rfl) ?_
  refine va_get (D := k.1) (ci := 1) (v := .long ((dr ^^^ (lh dr 13)) ^^^ (lu (dr ^^^ (lh dr 13)) 7))) (C := RX1) (T := TX1) (N := 1) hx hb hU inlX1 hown hK.1 hP 0 rfl rfl 0 (by decide) (hU _ uF_X1_11) (fun _ h9 => h9) rfl dX1_next_38 ?_
  refine lv_bipush (v := 17) hx hb dX1_next_41 (by decide) ?_
  refine lv_lshl (v := (lh ((dr ^^^ (lh dr 13)) ^^^ (lu (dr ^^^ (lh dr 13)) 7)) 17)) hx hb dX1_next_43 rfl ?_
  refine lv_lxor hx hb dX1_next_44 ?_
  refine va_put (D := k.1) (ci := 1) (v := .long (((dr ^^^ (lh dr 13)) ^^^ (lu (dr ^^^ (lh dr 13)) 7)) ^^^ (lh ((dr ^^^ (lh dr 13)) ^^^ (lu (dr ^^^ (lh dr 13)) 7)) 17))) (ty := .long) (C := RX1) (T := TX1) (N := 1) hx hb hU inlX1 tyX1 tyX1_ok nmX1 hown hK.1 hP hD hS 0 rfl rfl 0 (by decide) (hU _ uF_X1_11) (fun _ h9 => h9) rfl (by decide +kernel) rfl rfl (Nat.le_of_ble_eq_true rfl) dX1_next_45 (fun H locs hP hD hS => ?_)
  have hP := pz_d_0_0 k a ((dr ^^^ (lh dr 13)) ^^^ (lu (dr ^^^ (lh dr 13)) 7)) (((dr ^^^ (lh dr 13)) ^^^ (lu (dr ^^^ (lh dr 13)) 7)) ^^^ (lh ((dr ^^^ (lh dr 13)) ^^^ (lu (dr ^^^ (lh dr 13)) 7)) 17)) hP
  have hD := dz_d_0_0 k a ((dr ^^^ (lh dr 13)) ^^^ (lu (dr ^^^ (lh dr 13)) 7)) (((dr ^^^ (lh dr 13)) ^^^ (lu (dr ^^^ (lh dr 13)) 7)) ^^^ (lh ((dr ^^^ (lh dr 13)) ^^^ (lu (dr ^^^ (lh dr 13)) 7)) 17)) hD
  refine lv_aload_n hx hb dX1_next_48 rfl (lv_at hl 0 rfl) ?_
  refine va_get (D := k.1) (ci := 1) (v := .long (((dr ^^^ (lh dr 13)) ^^^ (lu (dr ^^^ (lh dr 13)) 7)) ^^^ (lh ((dr ^^^ (lh dr 13)) ^^^ (lu (dr ^^^ (lh dr 13)) 7)) 17))) (C := RX1) (T := TX1) (N := 1) hx hb hU inlX1 hown hK.1 hP 0 rfl rfl 0 (by decide) (hU _ uF_X1_11) (fun _ h9 => h9) rfl dX1_next_49 ?_
  refine lv_iconst (v := 1) hx hb dX1_next_52 (by decide) ?_
  refine lv_lushr (v := (lu (((dr ^^^ (lh dr 13)) ^^^ (lu (dr ^^^ (lh dr 13)) 7)) ^^^ (lh ((dr ^^^ (lh dr 13)) ^^^ (lu (dr ^^^ (lh dr 13)) 7)) 17)) 1)) hx hb dX1_next_53 rfl ?_
  have hP9 : va_P k.1 vwCl (dW k a (w_X1_next_dr dr)) H := by rw [w_X1_next_dr]; exact hP
  have hD9 : va_D A (dW k a (w_X1_next_dr dr)) := by rw [w_X1_next_dr]; exact hD
  exact W.lret (v := (lu (((dr ^^^ (lh dr 13)) ^^^ (lu (dr ^^^ (lh dr 13)) 7)) ^^^ (lh ((dr ^^^ (lh dr 13)) ^^^ (lu (dr ^^^ (lh dr 13)) 7)) 17)) 1)) hx hb hr (fun t ht hW => ⟨⟨by rw [w_X1_next], by rw [ht]; exact hP9, hD9⟩, hS.F ht⟩) hS.2.2 dX1_next_54

def w_X2_hasPair (S : SeaT) (ca : Int32) (cb : Int32) : Int32 := if (w_hasCell (S_cells S) ca) = 0 then 0 else if (w_hasCell (S_cells S) cb) = 0 then 0 else if ca = cb then 0 else 1
set_option maxHeartbeats 4000000 in
set_option maxRecDepth 100000 in
theorem c_X2_hasPair (l : Launch) (k : KT) (a : Nat → Nat) (S : SeaT) (T : TalT) (dr : Int64) (tr : Int64) (C : ChoT) (F : (Nat → Int32)) (G : GoT) (ca : Int32) (cb : Int32)  : MR l yX2_hasPair cX2_hasPair 3 (some .boolean) (rz 1 21) k [.ref (a 1), .int ca, .int cb] (xW k a S T dr tr C F G) (.int (w_X2_hasPair S ca cb)) := by
  refine Met.ofW (cc := cX2_hasPair) (maxL := 3) (ret := (some .boolean)) (by decide) rfl ?_
  intro p e s m args below meth c s₁ B hml hv
  obtain ⟨rfl, hP, hK⟩ := hv
  have hx := B.exec
  have hb := B.bytes
  have hr := B.returns
  have hU : ∀ w ∈ wsL_law, w.before [.ref (a 1), .int ca, .int cb].toArray s = true := fun w h => atoms_spec (ws := Cond.code yX2_hasPair cX2_hasPair 3 (some .boolean) :: wsL_law) B.pre w (List.mem_cons_of_mem _ h)
  have hown : s.vm.findClass RX2 = some m.cls := findClass_of_methodNamed B.named
  have hlocks := B.notSynchronized
  have hF : CF p m c cX2_hasPair 3 s [.ref (a 1), .int ca, .int cb].toArray RX2 := ⟨hx, hb, hml, hown, hU⟩
  have hl := lv_entry ([.ref (a 1), .int ca, .int cb] : List Value) (n := 3) (Nat.le_of_ble_eq_true rfl)
  rw [lg_entry_eq]
  generalize (lg_sl ([.ref (a 1), .int ca, .int cb] : List Value) ++ List.replicate (3 - (lg_sl ([.ref (a 1), .int ca, .int cb] : List Value)).length) Slot.unset).toArray = ls at hl ⊢
  have hl : lv_has ls 3 [(0, .ref (a 1)), (1, .int ca), (2, .int cb)] := hl
  refine lv_aload_n hx hb dX2_hasPair_0 rfl (lv_at hl 0 rfl) ?_
  refine lv_iload_n hx hb dX2_hasPair_1 rfl (lv_at hl 1 rfl) ?_
  refine rcV (n := 1) (As := [.int ca]) (rest := []) hF (c_X2_hasCell l k a S T dr tr C F G ca ) (hP) hK 1 (ci := 2) rfl rfl rfl uC_X2_hasCell uN_X2 uM_X2_51 uI_X2_hasCell uE_X2_hasCell (by decide +kernel) rfl ⟨Nat.le_of_ble_eq_true rfl, Nat.le_of_ble_eq_true rfl⟩ ⟨Nat.zero_le _, Nat.zero_le _⟩ hl.1 rfl (Nat.le_of_ble_eq_true rfl) dX2_hasPair_2 ?_
  refine lv_if_eq (tgt := 25) hx hb dX2_hasPair_5 (by decide) (fun c_1 => ?_) (fun c_1 => ?_)
  · refine lv_iconst (v := 0) hx hb dX2_hasPair_25 (by decide) ?_
    exact W.zret (v := 0) hx hb hr rfl (fun t ht hW => ⟨by rw [w_X2_hasPair, if_pos c_1], ht⟩) (fun q h => absurd h List.not_mem_nil) dX2_hasPair_26
  · refine lv_aload_n hx hb dX2_hasPair_8 rfl (lv_at hl 0 rfl) ?_
    refine lv_iload_n hx hb dX2_hasPair_9 rfl (lv_at hl 2 rfl) ?_
    refine rcV (n := 1) (As := [.int cb]) (rest := []) hF (c_X2_hasCell l k a S T dr tr C F G cb ) (hP) hK 1 (ci := 2) rfl rfl rfl uC_X2_hasCell uN_X2 uM_X2_51 uI_X2_hasCell uE_X2_hasCell (by decide +kernel) rfl ⟨Nat.le_of_ble_eq_true rfl, Nat.le_of_ble_eq_true rfl⟩ ⟨Nat.zero_le _, Nat.zero_le _⟩ hl.1 rfl (Nat.le_of_ble_eq_true rfl) dX2_hasPair_10 ?_
    refine lv_if_eq (tgt := 25) hx hb dX2_hasPair_13 (by decide) (fun c_2 => ?_) (fun c_2 => ?_)
    · refine lv_iconst (v := 0) hx hb dX2_hasPair_25 (by decide) ?_
      exact W.zret (v := 0) hx hb hr rfl (fun t ht hW => ⟨by rw [w_X2_hasPair, if_neg c_1, if_pos c_2], ht⟩) (fun q h => absurd h List.not_mem_nil) dX2_hasPair_26
    · refine lv_iload_n hx hb dX2_hasPair_16 rfl (lv_at hl 1 rfl) ?_
      refine lv_iload_n hx hb dX2_hasPair_17 rfl (lv_at hl 2 rfl) ?_
      refine lv_icmp_eq (tgt := 25) hx hb dX2_hasPair_18 (by decide) (fun c_3 => ?_) (fun c_3 => ?_)
      · refine lv_iconst (v := 0) hx hb dX2_hasPair_25 (by decide) ?_
        exact W.zret (v := 0) hx hb hr rfl (fun t ht hW => ⟨by rw [w_X2_hasPair, if_neg c_1, if_neg c_2, if_pos c_3], ht⟩) (fun q h => absurd h List.not_mem_nil) dX2_hasPair_26
      · refine lv_iconst (v := 1) hx hb dX2_hasPair_21 (by decide) ?_
        refine lv_goto (tgt := 26) hx hb dX2_hasPair_22 (by decide) ?_
        exact W.zret (v := 1) hx hb hr rfl (fun t ht hW => ⟨by rw [w_X2_hasPair, if_neg c_1, if_neg c_2, if_neg c_3], ht⟩) (fun q h => absurd h List.not_mem_nil) dX2_hasPair_26

def w_X2_putAmount_S (S : SeaT) (am : Int64) (j : Nat) (q : Nat) : SeaT := (sS_amounts (sS_kindTotals S (vp_updL (S_kindTotals S) q (((S_kindTotals S) q) + (am - ((S_amounts S) (j * 8 + q)))))) (vp_updL (S_amounts (sS_kindTotals S (vp_updL (S_kindTotals S) q (((S_kindTotals S) q) + (am - ((S_amounts S) (j * 8 + q))))))) (j * 8 + q) am))
set_option maxHeartbeats 4000000 in
set_option maxRecDepth 100000 in
theorem c_X2_putAmount (l : Launch) (k : KT) (a : Nat → Nat) (S : SeaT) (T : TalT) (dr : Int64) (tr : Int64) (C : ChoT) (F : (Nat → Int32)) (G : GoT) (ce : Int32) (ki : Int32) (am : Int64) (j q : Nat) (hj : j < 24) (hq : q < 8) (ej : ce = nI j) (ek : ki = nI q) : MW l yX2_putAmount cX2_putAmount 6 none (rz 0 0) k [.ref (a 1), .int ce, .int ki, .long am] (xW k a S T dr tr C F G) none (xW k a (w_X2_putAmount_S S am j q) T dr tr C F G) := by
  intro sz
  refine Met.ofW (cc := cX2_putAmount) (maxL := 6) (ret := none) (by decide) rfl ?_
  intro p e s m args below meth c s₁ B hml hv
  obtain ⟨rfl, hsz, hP, hK, hD0⟩ := hv
  have hx := B.exec
  have hb := B.bytes
  have hr := B.returns
  have hU : ∀ w ∈ wsL_law, w.before [.ref (a 1), .int ce, .int ki, .long am].toArray s = true := fun w h => atoms_spec (ws := Cond.code yX2_putAmount cX2_putAmount 6 none :: wsL_law) B.pre w (List.mem_cons_of_mem _ h)
  have hown : s.vm.findClass RX2 = some m.cls := findClass_of_methodNamed B.named
  have hlocks := B.notSynchronized
  have hF : CF p m c cX2_putAmount 6 s [.ref (a 1), .int ce, .int ki, .long am].toArray RX2 := ⟨hx, hb, hml, hown, hU⟩
  subst hsz
  have hD := hD0.self (sz := s.heap.size)
  generalize hAe : va_A (xW k a S T dr tr C F G) s.heap.size = A at hD ⊢
  have hA : ∀ q : Nat, s.heap.size ≤ q → A q := fun q h => by rw [← hAe]; exact Or.inr h
  have hS : va_S A s.heap s.heap [] := va_S.rf
  have hl := lv_entry ([.ref (a 1), .int ce, .int ki, .long am] : List Value) (n := 6) (Nat.le_of_ble_eq_true rfl)
  rw [lg_entry_eq]
  generalize (lg_sl ([.ref (a 1), .int ce, .int ki, .long am] : List Value) ++ List.replicate (6 - (lg_sl ([.ref (a 1), .int ce, .int ki, .long am] : List Value)).length) Slot.unset).toArray = ls at hl ⊢
  have hl : lv_has ls 6 [(0, .ref (a 1)), (1, .int ce), (2, .int ki), (3, .long am)] := hl
  refine lv_iload_n hx hb dX2_putAmount_0 rfl (lv_at hl 1 rfl) ?_
  refine lv_bipush (v := 8) hx hb dX2_putAmount_1 (by decide) ?_
  refine lv_imul hx hb dX2_putAmount_3 ?_
  refine lv_iload_n hx hb dX2_putAmount_4 rfl (lv_at hl 2 rfl) ?_
  refine lv_iadd hx hb dX2_putAmount_5 ?_
  refine lv_istore (lv' := [(5, .int ((ce * 8) + ki)), (0, .ref (a 1)), (1, .int ce), (2, .int ki), (3, .long am)]) hx hb dX2_putAmount_6 hl (by decide) rfl (fun ls hl => ?_)
  refine lv_aload_n hx hb dX2_putAmount_8 rfl (lv_at hl 1 rfl) ?_
  refine va_get (D := k.1) (ci := 2) (v := .ref (a 7)) (C := RX2) (T := TX2) (N := 16) hx hb hU inlX2 hown hK.1 hP 1 rfl rfl 5 (by decide) (hU _ uF_X2_28) (fun _ h9 => h9) rfl dX2_putAmount_9 ?_
  refine lv_iload_n hx hb dX2_putAmount_12 rfl (lv_at hl 3 rfl) ?_
  refine lv_dup2_11 hx hb dX2_putAmount_13 rfl rfl ?_
  refine xa_lald hx hb hK.1 hP 7 1 rfl rfl (j := q) ek hq (by decide) dX2_putAmount_14 ?_
  refine lv_lload_n hx hb dX2_putAmount_15 rfl (lv_at hl 4 rfl) ?_
  refine lv_aload_n hx hb dX2_putAmount_16 rfl (lv_at hl 1 rfl) ?_
  refine va_get (D := k.1) (ci := 2) (v := .ref (a 3)) (C := RX2) (T := TX2) (N := 16) hx hb hU inlX2 hown hK.1 hP 1 rfl rfl 1 (by decide) (hU _ uF_X2_15) (fun _ h9 => h9) rfl dX2_putAmount_17 ?_
  refine lv_iload hx hb dX2_putAmount_20 (lv_at hl 0 rfl) ?_
  refine xa_lald hx hb hK.1 hP 3 1 rfl rfl (j := j * 8 + q) (by rw [ej, ek]; exact ix8 j q) (by omega) (by decide) dX2_putAmount_22 ?_
  refine lv_lsub hx hb dX2_putAmount_23 ?_
  refine lv_ladd hx hb dX2_putAmount_24 ?_
  refine xa_last hx hb hK.1 hP hD hS 7 1 rfl rfl (j := q) ek hq (by decide) dX2_putAmount_25 (fun H locs hP hD hS => ?_)
  have hP := pz_x_7 k a S T dr tr C F G (vp_updL (S_kindTotals S) q (((S_kindTotals S) q) + (am - ((S_amounts S) (j * 8 + q))))) hP
  have hD := dz_x_7 k a S T dr tr C F G (vp_updL (S_kindTotals S) q (((S_kindTotals S) q) + (am - ((S_amounts S) (j * 8 + q))))) hD
  refine lv_aload_n hx hb dX2_putAmount_26 rfl (lv_at hl 1 rfl) ?_
  refine va_get (D := k.1) (ci := 2) (v := .ref (a 3)) (C := RX2) (T := TX2) (N := 16) hx hb hU inlX2 hown hK.1 hP 1 rfl rfl 1 (by decide) (hU _ uF_X2_15) (fun _ h9 => h9) rfl dX2_putAmount_27 ?_
  refine lv_iload hx hb dX2_putAmount_30 (lv_at hl 0 rfl) ?_
  refine lv_lload_n hx hb dX2_putAmount_32 rfl (lv_at hl 4 rfl) ?_
  refine xa_last hx hb hK.1 hP hD hS 3 1 rfl rfl (j := j * 8 + q) (by rw [ej, ek]; exact ix8 j q) (by omega) (by decide) dX2_putAmount_33 (fun H locs hP hD hS => ?_)
  have hP := pz_x_3 k a (sS_kindTotals S (vp_updL (S_kindTotals S) q (((S_kindTotals S) q) + (am - ((S_amounts S) (j * 8 + q)))))) T dr tr C F G (vp_updL (S_amounts (sS_kindTotals S (vp_updL (S_kindTotals S) q (((S_kindTotals S) q) + (am - ((S_amounts S) (j * 8 + q))))))) (j * 8 + q) am) hP
  have hD := dz_x_3 k a (sS_kindTotals S (vp_updL (S_kindTotals S) q (((S_kindTotals S) q) + (am - ((S_amounts S) (j * 8 + q)))))) T dr tr C F G (vp_updL (S_amounts (sS_kindTotals S (vp_updL (S_kindTotals S) q (((S_kindTotals S) q) + (am - ((S_amounts S) (j * 8 + q))))))) (j * 8 + q) am) hD
  have hP9 : va_P k.1 vwCl (xW k a (w_X2_putAmount_S S am j q) T dr tr C F G) H := by rw [w_X2_putAmount_S]; exact hP
  have hD9 : va_D A (xW k a (w_X2_putAmount_S S am j q) T dr tr C F G) := by rw [w_X2_putAmount_S]; exact hD
  exact W.vret hx hb hr (fun t ht hW => ⟨⟨rfl, by rw [ht]; exact hP9, hD9⟩, hS.F ht⟩) hS.2.2 dX2_putAmount_34

def w_X2_putHours_S (S : SeaT) (am : Int64) (j : Nat) (q : Nat) : SeaT := (sS_hours (sS_portTotals S (vp_updL (S_portTotals S) q (((S_portTotals S) q) + (am - ((S_hours S) (j * 4 + q)))))) (vp_updL (S_hours (sS_portTotals S (vp_updL (S_portTotals S) q (((S_portTotals S) q) + (am - ((S_hours S) (j * 4 + q))))))) (j * 4 + q) am))
set_option maxHeartbeats 4000000 in
set_option maxRecDepth 100000 in
theorem c_X2_putHours (l : Launch) (k : KT) (a : Nat → Nat) (S : SeaT) (T : TalT) (dr : Int64) (tr : Int64) (C : ChoT) (F : (Nat → Int32)) (G : GoT) (ce : Int32) (ki : Int32) (am : Int64) (j q : Nat) (hj : j < 24) (hq : q < 4) (ej : ce = nI j) (ek : ki = nI q) : MW l yX2_putHours cX2_putHours 6 none (rz 0 0) k [.ref (a 1), .int ce, .int ki, .long am] (xW k a S T dr tr C F G) none (xW k a (w_X2_putHours_S S am j q) T dr tr C F G) := by
  intro sz
  refine Met.ofW (cc := cX2_putHours) (maxL := 6) (ret := none) (by decide) rfl ?_
  intro p e s m args below meth c s₁ B hml hv
  obtain ⟨rfl, hsz, hP, hK, hD0⟩ := hv
  have hx := B.exec
  have hb := B.bytes
  have hr := B.returns
  have hU : ∀ w ∈ wsL_law, w.before [.ref (a 1), .int ce, .int ki, .long am].toArray s = true := fun w h => atoms_spec (ws := Cond.code yX2_putHours cX2_putHours 6 none :: wsL_law) B.pre w (List.mem_cons_of_mem _ h)
  have hown : s.vm.findClass RX2 = some m.cls := findClass_of_methodNamed B.named
  have hlocks := B.notSynchronized
  have hF : CF p m c cX2_putHours 6 s [.ref (a 1), .int ce, .int ki, .long am].toArray RX2 := ⟨hx, hb, hml, hown, hU⟩
  subst hsz
  have hD := hD0.self (sz := s.heap.size)
  generalize hAe : va_A (xW k a S T dr tr C F G) s.heap.size = A at hD ⊢
  have hA : ∀ q : Nat, s.heap.size ≤ q → A q := fun q h => by rw [← hAe]; exact Or.inr h
  have hS : va_S A s.heap s.heap [] := va_S.rf
  have hl := lv_entry ([.ref (a 1), .int ce, .int ki, .long am] : List Value) (n := 6) (Nat.le_of_ble_eq_true rfl)
  rw [lg_entry_eq]
  generalize (lg_sl ([.ref (a 1), .int ce, .int ki, .long am] : List Value) ++ List.replicate (6 - (lg_sl ([.ref (a 1), .int ce, .int ki, .long am] : List Value)).length) Slot.unset).toArray = ls at hl ⊢
  have hl : lv_has ls 6 [(0, .ref (a 1)), (1, .int ce), (2, .int ki), (3, .long am)] := hl
  refine lv_iload_n hx hb dX2_putHours_0 rfl (lv_at hl 1 rfl) ?_
  refine lv_iconst (v := 4) hx hb dX2_putHours_1 (by decide) ?_
  refine lv_imul hx hb dX2_putHours_2 ?_
  refine lv_iload_n hx hb dX2_putHours_3 rfl (lv_at hl 2 rfl) ?_
  refine lv_iadd hx hb dX2_putHours_4 ?_
  refine lv_istore (lv' := [(5, .int ((ce * 4) + ki)), (0, .ref (a 1)), (1, .int ce), (2, .int ki), (3, .long am)]) hx hb dX2_putHours_5 hl (by decide) rfl (fun ls hl => ?_)
  refine lv_aload_n hx hb dX2_putHours_7 rfl (lv_at hl 1 rfl) ?_
  refine va_get (D := k.1) (ci := 2) (v := .ref (a 8)) (C := RX2) (T := TX2) (N := 16) hx hb hU inlX2 hown hK.1 hP 1 rfl rfl 6 (by decide) (hU _ uF_X2_31) (fun _ h9 => h9) rfl dX2_putHours_8 ?_
  refine lv_iload_n hx hb dX2_putHours_11 rfl (lv_at hl 3 rfl) ?_
  refine lv_dup2_11 hx hb dX2_putHours_12 rfl rfl ?_
  refine xa_lald hx hb hK.1 hP 8 1 rfl rfl (j := q) ek hq (by decide) dX2_putHours_13 ?_
  refine lv_lload_n hx hb dX2_putHours_14 rfl (lv_at hl 4 rfl) ?_
  refine lv_aload_n hx hb dX2_putHours_15 rfl (lv_at hl 1 rfl) ?_
  refine va_get (D := k.1) (ci := 2) (v := .ref (a 4)) (C := RX2) (T := TX2) (N := 16) hx hb hU inlX2 hown hK.1 hP 1 rfl rfl 2 (by decide) (hU _ uF_X2_18) (fun _ h9 => h9) rfl dX2_putHours_16 ?_
  refine lv_iload hx hb dX2_putHours_19 (lv_at hl 0 rfl) ?_
  refine xa_lald hx hb hK.1 hP 4 1 rfl rfl (j := j * 4 + q) (by rw [ej, ek]; exact ix4 j q) (by omega) (by decide) dX2_putHours_21 ?_
  refine lv_lsub hx hb dX2_putHours_22 ?_
  refine lv_ladd hx hb dX2_putHours_23 ?_
  refine xa_last hx hb hK.1 hP hD hS 8 1 rfl rfl (j := q) ek hq (by decide) dX2_putHours_24 (fun H locs hP hD hS => ?_)
  have hP := pz_x_8 k a S T dr tr C F G (vp_updL (S_portTotals S) q (((S_portTotals S) q) + (am - ((S_hours S) (j * 4 + q))))) hP
  have hD := dz_x_8 k a S T dr tr C F G (vp_updL (S_portTotals S) q (((S_portTotals S) q) + (am - ((S_hours S) (j * 4 + q))))) hD
  refine lv_aload_n hx hb dX2_putHours_25 rfl (lv_at hl 1 rfl) ?_
  refine va_get (D := k.1) (ci := 2) (v := .ref (a 4)) (C := RX2) (T := TX2) (N := 16) hx hb hU inlX2 hown hK.1 hP 1 rfl rfl 2 (by decide) (hU _ uF_X2_18) (fun _ h9 => h9) rfl dX2_putHours_26 ?_
  refine lv_iload hx hb dX2_putHours_29 (lv_at hl 0 rfl) ?_
  refine lv_lload_n hx hb dX2_putHours_31 rfl (lv_at hl 4 rfl) ?_
  refine xa_last hx hb hK.1 hP hD hS 4 1 rfl rfl (j := j * 4 + q) (by rw [ej, ek]; exact ix4 j q) (by omega) (by decide) dX2_putHours_32 (fun H locs hP hD hS => ?_)
  have hP := pz_x_4 k a (sS_portTotals S (vp_updL (S_portTotals S) q (((S_portTotals S) q) + (am - ((S_hours S) (j * 4 + q)))))) T dr tr C F G (vp_updL (S_hours (sS_portTotals S (vp_updL (S_portTotals S) q (((S_portTotals S) q) + (am - ((S_hours S) (j * 4 + q))))))) (j * 4 + q) am) hP
  have hD := dz_x_4 k a (sS_portTotals S (vp_updL (S_portTotals S) q (((S_portTotals S) q) + (am - ((S_hours S) (j * 4 + q)))))) T dr tr C F G (vp_updL (S_hours (sS_portTotals S (vp_updL (S_portTotals S) q (((S_portTotals S) q) + (am - ((S_hours S) (j * 4 + q))))))) (j * 4 + q) am) hD
  have hP9 : va_P k.1 vwCl (xW k a (w_X2_putHours_S S am j q) T dr tr C F G) H := by rw [w_X2_putHours_S]; exact hP
  have hD9 : va_D A (xW k a (w_X2_putHours_S S am j q) T dr tr C F G) := by rw [w_X2_putHours_S]; exact hD
  exact W.vret hx hb hr (fun t ht hW => ⟨⟨rfl, by rw [ht]; exact hP9, hD9⟩, hS.F ht⟩) hS.2.2 dX2_putHours_33

def w_X2_openSet (S : SeaT) : Int32 := (((1 <<< ((S_cells S) &&& 31)) - 1) &&& ((S_barred S) ^^^ (-1)))
set_option maxHeartbeats 4000000 in
set_option maxRecDepth 100000 in
theorem c_X2_openSet (l : Launch) (k : KT) (a : Nat → Nat) (S : SeaT) (T : TalT) (dr : Int64) (tr : Int64) (C : ChoT) (F : (Nat → Int32)) (G : GoT)   : MR l yX2_openSet cX2_openSet 1 (some .int) (rz 0 0) k [.ref (a 1)] (xW k a S T dr tr C F G) (.int (w_X2_openSet S)) := by
  refine Met.ofW (cc := cX2_openSet) (maxL := 1) (ret := (some .int)) (by decide) rfl ?_
  intro p e s m args below meth c s₁ B hml hv
  obtain ⟨rfl, hP, hK⟩ := hv
  have hx := B.exec
  have hb := B.bytes
  have hr := B.returns
  have hU : ∀ w ∈ wsL_law, w.before [.ref (a 1)].toArray s = true := fun w h => atoms_spec (ws := Cond.code yX2_openSet cX2_openSet 1 (some .int) :: wsL_law) B.pre w (List.mem_cons_of_mem _ h)
  have hown : s.vm.findClass RX2 = some m.cls := findClass_of_methodNamed B.named
  have hlocks := B.notSynchronized
  have hF : CF p m c cX2_openSet 1 s [.ref (a 1)].toArray RX2 := ⟨hx, hb, hml, hown, hU⟩
  have hl := lv_entry ([.ref (a 1)] : List Value) (n := 1) (Nat.le_of_ble_eq_true rfl)
  rw [lg_entry_eq]
  generalize (lg_sl ([.ref (a 1)] : List Value) ++ List.replicate (1 - (lg_sl ([.ref (a 1)] : List Value)).length) Slot.unset).toArray = ls at hl ⊢
  have hl : lv_has ls 1 [(0, .ref (a 1))] := hl
  refine lv_iconst (v := 1) hx hb dX2_openSet_0 (by decide) ?_
  refine lv_aload_n hx hb dX2_openSet_1 rfl (lv_at hl 0 rfl) ?_
  refine va_get (D := k.1) (ci := 2) (v := .int (S_cells S)) (C := RX2) (T := TX2) (N := 16) hx hb hU inlX2 hown hK.1 hP 1 rfl rfl 12 (by decide) (hU _ uF_X2_47) (fun _ h9 => h9) rfl dX2_openSet_2 ?_
  refine lv_ishl hx hb dX2_openSet_5 ?_
  refine lv_iconst (v := 1) hx hb dX2_openSet_6 (by decide) ?_
  refine lv_isub hx hb dX2_openSet_7 ?_
  refine lv_aload_n hx hb dX2_openSet_8 rfl (lv_at hl 0 rfl) ?_
  refine va_get (D := k.1) (ci := 2) (v := .int (S_barred S)) (C := RX2) (T := TX2) (N := 16) hx hb hU inlX2 hown hK.1 hP 1 rfl rfl 14 (by decide) (hU _ uF_X2_55) (fun _ h9 => h9) rfl dX2_openSet_9 ?_
  refine lv_iconst (v := (-1)) hx hb dX2_openSet_12 (by decide) ?_
  refine lv_ixor hx hb dX2_openSet_13 ?_
  refine lv_iand hx hb dX2_openSet_14 ?_
  exact W.iret (v := (((1 <<< ((S_cells S) &&& 31)) - 1) &&& ((S_barred S) ^^^ (-1)))) hx hb hr (fun t ht hW => ⟨by rw [w_X2_openSet], ht⟩) (fun q h => absurd h List.not_mem_nil) dX2_openSet_15

def w_X2_freeSet (S : SeaT) : Int32 := ((w_X2_openSet S) &&& ((S_needed S) ^^^ (-1)))
set_option maxHeartbeats 4000000 in
set_option maxRecDepth 100000 in
theorem c_X2_freeSet (l : Launch) (k : KT) (a : Nat → Nat) (S : SeaT) (T : TalT) (dr : Int64) (tr : Int64) (C : ChoT) (F : (Nat → Int32)) (G : GoT)   : MR l yX2_freeSet cX2_freeSet 1 (some .int) (rz 1 20) k [.ref (a 1)] (xW k a S T dr tr C F G) (.int (w_X2_freeSet S)) := by
  refine Met.ofW (cc := cX2_freeSet) (maxL := 1) (ret := (some .int)) (by decide) rfl ?_
  intro p e s m args below meth c s₁ B hml hv
  obtain ⟨rfl, hP, hK⟩ := hv
  have hx := B.exec
  have hb := B.bytes
  have hr := B.returns
  have hU : ∀ w ∈ wsL_law, w.before [.ref (a 1)].toArray s = true := fun w h => atoms_spec (ws := Cond.code yX2_freeSet cX2_freeSet 1 (some .int) :: wsL_law) B.pre w (List.mem_cons_of_mem _ h)
  have hown : s.vm.findClass RX2 = some m.cls := findClass_of_methodNamed B.named
  have hlocks := B.notSynchronized
  have hF : CF p m c cX2_freeSet 1 s [.ref (a 1)].toArray RX2 := ⟨hx, hb, hml, hown, hU⟩
  have hl := lv_entry ([.ref (a 1)] : List Value) (n := 1) (Nat.le_of_ble_eq_true rfl)
  rw [lg_entry_eq]
  generalize (lg_sl ([.ref (a 1)] : List Value) ++ List.replicate (1 - (lg_sl ([.ref (a 1)] : List Value)).length) Slot.unset).toArray = ls at hl ⊢
  have hl : lv_has ls 1 [(0, .ref (a 1))] := hl
  refine lv_aload_n hx hb dX2_freeSet_0 rfl (lv_at hl 0 rfl) ?_
  refine rcV (n := 0) (As := []) (rest := []) hF (c_X2_openSet l k a S T dr tr C F G  ) (hP) hK 1 (ci := 2) rfl rfl rfl uC_X2_openSet uN_X2 uM_X2_58 uI_X2_openSet uE_X2_openSet (by decide +kernel) rfl ⟨Nat.le_of_ble_eq_true rfl, Nat.le_of_ble_eq_true rfl⟩ ⟨Nat.zero_le _, Nat.zero_le _⟩ hl.1 rfl (Nat.le_of_ble_eq_true rfl) dX2_freeSet_1 ?_
  refine lv_aload_n hx hb dX2_freeSet_4 rfl (lv_at hl 0 rfl) ?_
  refine va_get (D := k.1) (ci := 2) (v := .int (S_needed S)) (C := RX2) (T := TX2) (N := 16) hx hb hU inlX2 hown hK.1 hP 1 rfl rfl 13 (by decide) (hU _ uF_X2_62) (fun _ h9 => h9) rfl dX2_freeSet_5 ?_
  refine lv_iconst (v := (-1)) hx hb dX2_freeSet_8 (by decide) ?_
  refine lv_ixor hx hb dX2_freeSet_9 ?_
  refine lv_iand hx hb dX2_freeSet_10 ?_
  exact W.iret (v := ((w_X2_openSet S) &&& ((S_needed S) ^^^ (-1)))) hx hb hr (fun t ht hW => ⟨by rw [w_X2_freeSet], ht⟩) (fun q h => absurd h List.not_mem_nil) dX2_freeSet_11

def f_costsOf (S : SeaT) (set : Int32) : Nat → Int64 := fun c => if bt set c then S_costs S c else 0
set_option maxHeartbeats 4000000 in
set_option maxRecDepth 100000 in
theorem c_X2_costsOf (l : Launch) (k : KT) (a : Nat → Nat) (S : SeaT) (T : TalT) (dr : Int64) (tr : Int64) (C : ChoT) (F : (Nat → Int32)) (G : GoT) (set : Int32) (n : Nat) (hn : n ≤ 24) (hc : S_cells S = nI n) : MR l yX2_costsOf cX2_costsOf 5 (some .long) (rz 1 21) k [.ref (a 1), .int set] (xW k a S T dr tr C F G) (.long (sm (f_costsOf S set) n)) := by
  refine Met.ofW (cc := cX2_costsOf) (maxL := 5) (ret := (some .long)) (by decide) rfl ?_
  intro p e s m args below meth c s₁ B hml hv
  obtain ⟨rfl, hP, hK⟩ := hv
  have hx := B.exec
  have hb := B.bytes
  have hr := B.returns
  have hU : ∀ w ∈ wsL_law, w.before [.ref (a 1), .int set].toArray s = true := fun w h => atoms_spec (ws := Cond.code yX2_costsOf cX2_costsOf 5 (some .long) :: wsL_law) B.pre w (List.mem_cons_of_mem _ h)
  have hown : s.vm.findClass RX2 = some m.cls := findClass_of_methodNamed B.named
  have hlocks := B.notSynchronized
  have hF : CF p m c cX2_costsOf 5 s [.ref (a 1), .int set].toArray RX2 := ⟨hx, hb, hml, hown, hU⟩
  have hl := lv_entry ([.ref (a 1), .int set] : List Value) (n := 5) (Nat.le_of_ble_eq_true rfl)
  rw [lg_entry_eq]
  generalize (lg_sl ([.ref (a 1), .int set] : List Value) ++ List.replicate (5 - (lg_sl ([.ref (a 1), .int set] : List Value)).length) Slot.unset).toArray = ls at hl ⊢
  have hl : lv_has ls 5 [(0, .ref (a 1)), (1, .int set)] := hl
  refine lv_lconst (v := 0) hx hb dX2_costsOf_0 (by decide) ?_
  refine lv_lstore_n (lv' := [(2, .long 0), (0, .ref (a 1)), (1, .int set)]) hx hb dX2_costsOf_1 rfl hl (by decide) rfl (fun ls hl => ?_)
  refine lv_iconst (v := 0) hx hb dX2_costsOf_2 (by decide) ?_
  refine lv_istore (lv' := [(4, .int 0), (2, .long 0), (0, .ref (a 1)), (1, .int set)]) hx hb dX2_costsOf_3 hl (by decide) rfl (fun ls hl => ?_)
  have loop_i : ∀ (ri i : Nat), i + ri * 1 = n → ∀ (ls : Array Slot) , lv_has ls 5 [(4, .int (nI i)), (2, .long (sm (f_costsOf S set) i)), (0, .ref (a 1)), (1, .int set)] → WR p l e s m below meth c yX2_costsOf cX2_costsOf 5 (some .long) (rz 1 21) [.ref (a 1), .int set] (.long (sm (f_costsOf S set) n)) (F0 m 5 ls []) := by
    intro ri
    induction ri with
    | zero =>
      intro i hi_i ls hl
      have he_i : n = i := by omega
      subst he_i
      refine lv_iload hx hb dX2_costsOf_5 (lv_at hl 0 rfl) ?_
      refine lv_aload_n hx hb dX2_costsOf_7 rfl (lv_at hl 2 rfl) ?_
      refine va_get (D := k.1) (ci := 2) (v := .int (S_cells S)) (C := RX2) (T := TX2) (N := 16) hx hb hU inlX2 hown hK.1 hP 1 rfl rfl 12 (by decide) (hU _ uF_X2_47) (fun _ h9 => h9) rfl dX2_costsOf_8 ?_
      refine xb_ge (tgt := 39) hx hb dX2_costsOf_11 (by decide) (fun c_1 => ?_) (fun c9 => absurd c9 (by rw [hc]; exact nI_nlt (a := n) (b := n) (Nat.le_refl _) (by omega)))
      refine lv_lload_n hx hb dX2_costsOf_39 rfl (lv_at hl 1 rfl) ?_
      exact W.lret (v := (sm (f_costsOf S set) n)) hx hb hr (fun t ht hW => ⟨rfl, ht⟩) (fun q h => absurd h List.not_mem_nil) dX2_costsOf_40
    | succ ri ih_i =>
      intro i hi_i ls hl
      have ht_i : i < n := by omega
      refine lv_iload hx hb dX2_costsOf_5 (lv_at hl 0 rfl) ?_
      refine lv_aload_n hx hb dX2_costsOf_7 rfl (lv_at hl 2 rfl) ?_
      refine va_get (D := k.1) (ci := 2) (v := .int (S_cells S)) (C := RX2) (T := TX2) (N := 16) hx hb hU inlX2 hown hK.1 hP 1 rfl rfl 12 (by decide) (hU _ uF_X2_47) (fun _ h9 => h9) rfl dX2_costsOf_8 ?_
      refine xb_ge (tgt := 39) hx hb dX2_costsOf_11 (by decide) (fun c9 => absurd (by rw [hc]; exact nI_lt (a := i) (b := n) (by omega) (by omega)) c9) (fun c_2 => ?_)
      refine lv_iload_n hx hb dX2_costsOf_14 rfl (lv_at hl 3 rfl) ?_
      refine lv_iload hx hb dX2_costsOf_15 (lv_at hl 0 rfl) ?_
      refine rcSN (n := 2) (As := [.int set, .int (nI i)]) (rest := []) hF (c_X4_hasBit l k set (nI i)) (hP.sub (ws' := []) [] rfl) hK uC_X4_hasBit uN_X4 nM_X2_65 uS_X4_hasBit (by decide +kernel) rfl ⟨Nat.le_of_ble_eq_true rfl, Nat.le_of_ble_eq_true rfl⟩ ⟨Nat.zero_le _, Nat.zero_le _⟩ hl.1 rfl (Nat.le_of_ble_eq_true rfl) dX2_costsOf_17 ?_
      refine lv_if_eq (tgt := 33) hx hb dX2_costsOf_20 (by decide) (fun c_3 => ?_) (fun c_3 => ?_)
      · refine lv_iinc (v := nI (i + 1)) (lv' := [(4, .int (nI (i + 1))), (2, .long (sm (f_costsOf S set) i)), (0, .ref (a 1)), (1, .int set)]) hx hb dX2_costsOf_33 hl (k := 0) rfl (nI_add i 1) (by decide) rfl (fun ls hl => ?_)
        refine lv_goto (tgt := 5) hx hb dX2_costsOf_36 (by decide) ?_
        have eb : bt set i = false := (hb0 set (by omega)).mp c_3
        have hq : (sm (f_costsOf S set) i) = (sm (f_costsOf S set) (i + 1)) := by simp [sm, f_costsOf, eb]
        rw [hq] at hl
        exact ih_i (i + 1) (by omega) ls (lv_sub hl [0, 1, 2, 3] rfl)
      · refine lv_lload_n hx hb dX2_costsOf_23 rfl (lv_at hl 1 rfl) ?_
        refine lv_aload_n hx hb dX2_costsOf_24 rfl (lv_at hl 2 rfl) ?_
        refine va_get (D := k.1) (ci := 2) (v := .ref (a 2)) (C := RX2) (T := TX2) (N := 16) hx hb hU inlX2 hown hK.1 hP 1 rfl rfl 0 (by decide) (hU _ uF_X2_9) (fun _ h9 => h9) rfl dX2_costsOf_25 ?_
        refine lv_iload hx hb dX2_costsOf_28 (lv_at hl 0 rfl) ?_
        refine xa_lald hx hb hK.1 hP 2 1 rfl rfl (j := i) rfl (by omega) (by decide) dX2_costsOf_30 ?_
        refine lv_ladd hx hb dX2_costsOf_31 ?_
        refine lv_lstore_n (lv' := [(2, .long ((sm (f_costsOf S set) i) + ((S_costs S) i))), (4, .int (nI i)), (0, .ref (a 1)), (1, .int set)]) hx hb dX2_costsOf_32 rfl hl (by decide) rfl (fun ls hl => ?_)
        refine lv_iinc (v := nI (i + 1)) (lv' := [(4, .int (nI (i + 1))), (2, .long ((sm (f_costsOf S set) i) + ((S_costs S) i))), (0, .ref (a 1)), (1, .int set)]) hx hb dX2_costsOf_33 hl (k := 1) rfl (nI_add i 1) (by decide) rfl (fun ls hl => ?_)
        refine lv_goto (tgt := 5) hx hb dX2_costsOf_36 (by decide) ?_
        have eb : bt set i = true := (hb1 set (by omega)).mp c_3
        have hq : ((sm (f_costsOf S set) i) + ((S_costs S) i)) = (sm (f_costsOf S set) (i + 1)) := by simp [sm, f_costsOf, eb]
        rw [hq] at hl
        exact ih_i (i + 1) (by omega) ls (lv_sub hl [0, 1, 2, 3] rfl)
  exact loop_i n 0 (by omega) ls (lv_sub hl [0, 1, 2, 3] rfl)

def w_X2_comesBefore (S : SeaT) (ca : Int32) (cb : Int32) (i : Nat) (j : Nat) : Int32 := if ((S_costs S) i) < ((S_costs S) j) then 1 else if ((S_costs S) i) = ((S_costs S) j) then if ca < cb then 1 else 0 else 0
set_option maxHeartbeats 4000000 in
set_option maxRecDepth 100000 in
theorem c_X2_comesBefore (l : Launch) (k : KT) (a : Nat → Nat) (S : SeaT) (T : TalT) (dr : Int64) (tr : Int64) (C : ChoT) (F : (Nat → Int32)) (G : GoT) (ca : Int32) (cb : Int32) (i j : Nat) (hi : i < 24) (hj : j < 24) (ei : ca = nI i) (ej : cb = nI j) : MR l yX2_comesBefore cX2_comesBefore 3 (some .boolean) (rz 0 0) k [.ref (a 1), .int ca, .int cb] (xW k a S T dr tr C F G) (.int (w_X2_comesBefore S ca cb i j)) := by
  refine Met.ofW (cc := cX2_comesBefore) (maxL := 3) (ret := (some .boolean)) (by decide) rfl ?_
  intro p e s m args below meth c s₁ B hml hv
  obtain ⟨rfl, hP, hK⟩ := hv
  have hx := B.exec
  have hb := B.bytes
  have hr := B.returns
  have hU : ∀ w ∈ wsL_law, w.before [.ref (a 1), .int ca, .int cb].toArray s = true := fun w h => atoms_spec (ws := Cond.code yX2_comesBefore cX2_comesBefore 3 (some .boolean) :: wsL_law) B.pre w (List.mem_cons_of_mem _ h)
  have hown : s.vm.findClass RX2 = some m.cls := findClass_of_methodNamed B.named
  have hlocks := B.notSynchronized
  have hF : CF p m c cX2_comesBefore 3 s [.ref (a 1), .int ca, .int cb].toArray RX2 := ⟨hx, hb, hml, hown, hU⟩
  have hl := lv_entry ([.ref (a 1), .int ca, .int cb] : List Value) (n := 3) (Nat.le_of_ble_eq_true rfl)
  rw [lg_entry_eq]
  generalize (lg_sl ([.ref (a 1), .int ca, .int cb] : List Value) ++ List.replicate (3 - (lg_sl ([.ref (a 1), .int ca, .int cb] : List Value)).length) Slot.unset).toArray = ls at hl ⊢
  have hl : lv_has ls 3 [(0, .ref (a 1)), (1, .int ca), (2, .int cb)] := hl
  refine lv_aload_n hx hb dX2_comesBefore_0 rfl (lv_at hl 0 rfl) ?_
  refine va_get (D := k.1) (ci := 2) (v := .ref (a 2)) (C := RX2) (T := TX2) (N := 16) hx hb hU inlX2 hown hK.1 hP 1 rfl rfl 0 (by decide) (hU _ uF_X2_9) (fun _ h9 => h9) rfl dX2_comesBefore_1 ?_
  refine lv_iload_n hx hb dX2_comesBefore_4 rfl (lv_at hl 1 rfl) ?_
  refine xa_lald hx hb hK.1 hP 2 1 rfl rfl (j := i) ei hi (by decide) dX2_comesBefore_5 ?_
  refine lv_aload_n hx hb dX2_comesBefore_6 rfl (lv_at hl 0 rfl) ?_
  refine va_get (D := k.1) (ci := 2) (v := .ref (a 2)) (C := RX2) (T := TX2) (N := 16) hx hb hU inlX2 hown hK.1 hP 1 rfl rfl 0 (by decide) (hU _ uF_X2_9) (fun _ h9 => h9) rfl dX2_comesBefore_7 ?_
  refine lv_iload_n hx hb dX2_comesBefore_10 rfl (lv_at hl 2 rfl) ?_
  refine xa_lald hx hb hK.1 hP 2 1 rfl rfl (j := j) ej hj (by decide) dX2_comesBefore_11 ?_
  refine xl_lt (tgt := 37) hx hb dX2_comesBefore_12 dX2_comesBefore_13 (by decide) (fun c_1 => ?_) (fun c_1 => ?_)
  · refine lv_iconst (v := 1) hx hb dX2_comesBefore_37 (by decide) ?_
    refine lv_goto (tgt := 42) hx hb dX2_comesBefore_38 (by decide) ?_
    exact W.zret (v := 1) hx hb hr rfl (fun t ht hW => ⟨by rw [w_X2_comesBefore, if_pos c_1], ht⟩) (fun q h => absurd h List.not_mem_nil) dX2_comesBefore_42
  · refine lv_aload_n hx hb dX2_comesBefore_16 rfl (lv_at hl 0 rfl) ?_
    refine va_get (D := k.1) (ci := 2) (v := .ref (a 2)) (C := RX2) (T := TX2) (N := 16) hx hb hU inlX2 hown hK.1 hP 1 rfl rfl 0 (by decide) (hU _ uF_X2_9) (fun _ h9 => h9) rfl dX2_comesBefore_17 ?_
    refine lv_iload_n hx hb dX2_comesBefore_20 rfl (lv_at hl 1 rfl) ?_
    refine xa_lald hx hb hK.1 hP 2 1 rfl rfl (j := i) ei hi (by decide) dX2_comesBefore_21 ?_
    refine lv_aload_n hx hb dX2_comesBefore_22 rfl (lv_at hl 0 rfl) ?_
    refine va_get (D := k.1) (ci := 2) (v := .ref (a 2)) (C := RX2) (T := TX2) (N := 16) hx hb hU inlX2 hown hK.1 hP 1 rfl rfl 0 (by decide) (hU _ uF_X2_9) (fun _ h9 => h9) rfl dX2_comesBefore_23 ?_
    refine lv_iload_n hx hb dX2_comesBefore_26 rfl (lv_at hl 2 rfl) ?_
    refine xa_lald hx hb hK.1 hP 2 1 rfl rfl (j := j) ej hj (by decide) dX2_comesBefore_27 ?_
    refine xl_ne (tgt := 41) hx hb dX2_comesBefore_28 dX2_comesBefore_29 (by decide) (fun c_2 => ?_) (fun c_2 => ?_)
    · refine lv_iconst (v := 0) hx hb dX2_comesBefore_41 (by decide) ?_
      exact W.zret (v := 0) hx hb hr rfl (fun t ht hW => ⟨by rw [w_X2_comesBefore, if_neg c_1, if_neg c_2], ht⟩) (fun q h => absurd h List.not_mem_nil) dX2_comesBefore_42
    · refine lv_iload_n hx hb dX2_comesBefore_32 rfl (lv_at hl 1 rfl) ?_
      refine lv_iload_n hx hb dX2_comesBefore_33 rfl (lv_at hl 2 rfl) ?_
      refine xb_ge (tgt := 41) hx hb dX2_comesBefore_34 (by decide) (fun c_3 => ?_) (fun c_3 => ?_)
      · refine lv_iconst (v := 0) hx hb dX2_comesBefore_41 (by decide) ?_
        exact W.zret (v := 0) hx hb hr rfl (fun t ht hW => ⟨by rw [w_X2_comesBefore, if_neg c_1, if_pos c_2, if_neg c_3], ht⟩) (fun q h => absurd h List.not_mem_nil) dX2_comesBefore_42
      · refine lv_iconst (v := 1) hx hb dX2_comesBefore_37 (by decide) ?_
        refine lv_goto (tgt := 42) hx hb dX2_comesBefore_38 (by decide) ?_
        exact W.zret (v := 1) hx hb hr rfl (fun t ht hW => ⟨by rw [w_X2_comesBefore, if_neg c_1, if_pos c_2, if_pos c_3], ht⟩) (fun q h => absurd h List.not_mem_nil) dX2_comesBefore_42

def w_X3_price (S : SeaT) (T : TalT) : Int64 := ((T_cellCosts T) + ((S_borderWeight S) * (T_borderLength T)))
set_option maxHeartbeats 4000000 in
set_option maxRecDepth 100000 in
theorem c_X3_price (l : Launch) (k : KT) (a : Nat → Nat) (S : SeaT) (T : TalT) (dr : Int64) (tr : Int64) (C : ChoT) (F : (Nat → Int32)) (G : GoT)   : MR l yX3_price cX3_price 1 (some .long) (rz 0 0) k [.ref (a 11)] (xW k a S T dr tr C F G) (.long (w_X3_price S T)) := by
  refine Met.ofW (cc := cX3_price) (maxL := 1) (ret := (some .long)) (by decide) rfl ?_
  intro p e s m args below meth c s₁ B hml hv
  obtain ⟨rfl, hP, hK⟩ := hv
  have hx := B.exec
  have hb := B.bytes
  have hr := B.returns
  have hU : ∀ w ∈ wsL_law, w.before [.ref (a 11)].toArray s = true := fun w h => atoms_spec (ws := Cond.code yX3_price cX3_price 1 (some .long) :: wsL_law) B.pre w (List.mem_cons_of_mem _ h)
  have hown : s.vm.findClass RX3 = some m.cls := findClass_of_methodNamed B.named
  have hlocks := B.notSynchronized
  have hF : CF p m c cX3_price 1 s [.ref (a 11)].toArray RX3 := ⟨hx, hb, hml, hown, hU⟩
  have hl := lv_entry ([.ref (a 11)] : List Value) (n := 1) (Nat.le_of_ble_eq_true rfl)
  rw [lg_entry_eq]
  generalize (lg_sl ([.ref (a 11)] : List Value) ++ List.replicate (1 - (lg_sl ([.ref (a 11)] : List Value)).length) Slot.unset).toArray = ls at hl ⊢
  have hl : lv_has ls 1 [(0, .ref (a 11))] := hl
  refine lv_aload_n hx hb dX3_price_0 rfl (lv_at hl 0 rfl) ?_
  refine va_get (D := k.1) (ci := 3) (v := .long (T_cellCosts T)) (C := RX3) (T := TX3) (N := 7) hx hb hU inlX3 hown hK.1 hP 11 rfl rfl 5 (by decide) (hU _ uF_X3_29) (fun _ h9 => h9) rfl dX3_price_1 ?_
  refine lv_aload_n hx hb dX3_price_4 rfl (lv_at hl 0 rfl) ?_
  refine va_get (D := k.1) (ci := 3) (v := .ref (a 1)) (C := RX3) (T := TX3) (N := 7) hx hb hU inlX3 hown hK.1 hP 11 rfl rfl 0 (by decide) (hU _ uF_X3_9) (fun _ h9 => h9) rfl dX3_price_5 ?_
  refine va_getN (D := k.1) (ci := 2) (v := .long (S_borderWeight S)) (C := RX2) (T := TX2) (N := 16) hx hb hU inlX2 hown hK.1 hP 1 rfl rfl 11 (by decide) (hK.nf nF_X3_69) (fun _ h9 => h9) rfl dX3_price_8 ?_
  refine lv_aload_n hx hb dX3_price_11 rfl (lv_at hl 0 rfl) ?_
  refine va_get (D := k.1) (ci := 3) (v := .long (T_borderLength T)) (C := RX3) (T := TX3) (N := 7) hx hb hU inlX3 hown hK.1 hP 11 rfl rfl 6 (by decide) (hU _ uF_X3_33) (fun _ h9 => h9) rfl dX3_price_12 ?_
  refine lv_lmul hx hb dX3_price_15 ?_
  refine lv_ladd hx hb dX3_price_16 ?_
  exact W.lret (v := ((T_cellCosts T) + ((S_borderWeight S) * (T_borderLength T)))) hx hb hr (fun t ht hW => ⟨by rw [w_X3_price], ht⟩) (fun q h => absurd h List.not_mem_nil) dX3_price_17

def w_X3_meetsGoal (S : SeaT) (T : TalT) (j : Nat) : Int32 := if (((T_amounts T) j) * ((S_goalBelow S) j)) < (((S_kindTotals S) j) * ((S_goalAbove S) j)) then 0 else 1
set_option maxHeartbeats 4000000 in
set_option maxRecDepth 100000 in
theorem c_X3_meetsGoal (l : Launch) (k : KT) (a : Nat → Nat) (S : SeaT) (T : TalT) (dr : Int64) (tr : Int64) (C : ChoT) (F : (Nat → Int32)) (G : GoT) (ki : Int32) (j : Nat) (hj : j < 8) (ej : ki = nI j) : MR l yX3_meetsGoal cX3_meetsGoal 2 (some .boolean) (rz 0 0) k [.ref (a 11), .int ki] (xW k a S T dr tr C F G) (.int (w_X3_meetsGoal S T j)) := by
  refine Met.ofW (cc := cX3_meetsGoal) (maxL := 2) (ret := (some .boolean)) (by decide) rfl ?_
  intro p e s m args below meth c s₁ B hml hv
  obtain ⟨rfl, hP, hK⟩ := hv
  have hx := B.exec
  have hb := B.bytes
  have hr := B.returns
  have hU : ∀ w ∈ wsL_law, w.before [.ref (a 11), .int ki].toArray s = true := fun w h => atoms_spec (ws := Cond.code yX3_meetsGoal cX3_meetsGoal 2 (some .boolean) :: wsL_law) B.pre w (List.mem_cons_of_mem _ h)
  have hown : s.vm.findClass RX3 = some m.cls := findClass_of_methodNamed B.named
  have hlocks := B.notSynchronized
  have hF : CF p m c cX3_meetsGoal 2 s [.ref (a 11), .int ki].toArray RX3 := ⟨hx, hb, hml, hown, hU⟩
  have hl := lv_entry ([.ref (a 11), .int ki] : List Value) (n := 2) (Nat.le_of_ble_eq_true rfl)
  rw [lg_entry_eq]
  generalize (lg_sl ([.ref (a 11), .int ki] : List Value) ++ List.replicate (2 - (lg_sl ([.ref (a 11), .int ki] : List Value)).length) Slot.unset).toArray = ls at hl ⊢
  have hl : lv_has ls 2 [(0, .ref (a 11)), (1, .int ki)] := hl
  refine lv_aload_n hx hb dX3_meetsGoal_0 rfl (lv_at hl 0 rfl) ?_
  refine va_get (D := k.1) (ci := 3) (v := .ref (a 12)) (C := RX3) (T := TX3) (N := 7) hx hb hU inlX3 hown hK.1 hP 11 rfl rfl 1 (by decide) (hU _ uF_X3_15) (fun _ h9 => h9) rfl dX3_meetsGoal_1 ?_
  refine lv_iload_n hx hb dX3_meetsGoal_4 rfl (lv_at hl 1 rfl) ?_
  refine xa_lald hx hb hK.1 hP 12 1 rfl rfl (j := j) ej hj (by decide) dX3_meetsGoal_5 ?_
  refine lv_aload_n hx hb dX3_meetsGoal_6 rfl (lv_at hl 0 rfl) ?_
  refine va_get (D := k.1) (ci := 3) (v := .ref (a 1)) (C := RX3) (T := TX3) (N := 7) hx hb hU inlX3 hown hK.1 hP 11 rfl rfl 0 (by decide) (hU _ uF_X3_9) (fun _ h9 => h9) rfl dX3_meetsGoal_7 ?_
  refine va_getN (D := k.1) (ci := 2) (v := .ref (a 10)) (C := RX2) (T := TX2) (N := 16) hx hb hU inlX2 hown hK.1 hP 1 rfl rfl 8 (by decide) (hK.nf nF_X3_92) (fun _ h9 => h9) rfl dX3_meetsGoal_10 ?_
  refine lv_iload_n hx hb dX3_meetsGoal_13 rfl (lv_at hl 1 rfl) ?_
  refine xa_lald hx hb hK.1 hP 10 1 rfl rfl (j := j) ej hj (by decide) dX3_meetsGoal_14 ?_
  refine lv_lmul hx hb dX3_meetsGoal_15 ?_
  refine lv_aload_n hx hb dX3_meetsGoal_16 rfl (lv_at hl 0 rfl) ?_
  refine va_get (D := k.1) (ci := 3) (v := .ref (a 1)) (C := RX3) (T := TX3) (N := 7) hx hb hU inlX3 hown hK.1 hP 11 rfl rfl 0 (by decide) (hU _ uF_X3_9) (fun _ h9 => h9) rfl dX3_meetsGoal_17 ?_
  refine va_getN (D := k.1) (ci := 2) (v := .ref (a 7)) (C := RX2) (T := TX2) (N := 16) hx hb hU inlX2 hown hK.1 hP 1 rfl rfl 5 (by decide) (hK.nf nF_X3_95) (fun _ h9 => h9) rfl dX3_meetsGoal_20 ?_
  refine lv_iload_n hx hb dX3_meetsGoal_23 rfl (lv_at hl 1 rfl) ?_
  refine xa_lald hx hb hK.1 hP 7 1 rfl rfl (j := j) ej hj (by decide) dX3_meetsGoal_24 ?_
  refine lv_aload_n hx hb dX3_meetsGoal_25 rfl (lv_at hl 0 rfl) ?_
  refine va_get (D := k.1) (ci := 3) (v := .ref (a 1)) (C := RX3) (T := TX3) (N := 7) hx hb hU inlX3 hown hK.1 hP 11 rfl rfl 0 (by decide) (hU _ uF_X3_9) (fun _ h9 => h9) rfl dX3_meetsGoal_26 ?_
  refine va_getN (D := k.1) (ci := 2) (v := .ref (a 9)) (C := RX2) (T := TX2) (N := 16) hx hb hU inlX2 hown hK.1 hP 1 rfl rfl 7 (by decide) (hK.nf nF_X3_98) (fun _ h9 => h9) rfl dX3_meetsGoal_29 ?_
  refine lv_iload_n hx hb dX3_meetsGoal_32 rfl (lv_at hl 1 rfl) ?_
  refine xa_lald hx hb hK.1 hP 9 1 rfl rfl (j := j) ej hj (by decide) dX3_meetsGoal_33 ?_
  refine lv_lmul hx hb dX3_meetsGoal_34 ?_
  refine xl_lt (tgt := 43) hx hb dX3_meetsGoal_35 dX3_meetsGoal_36 (by decide) (fun c_1 => ?_) (fun c_1 => ?_)
  · refine lv_iconst (v := 0) hx hb dX3_meetsGoal_43 (by decide) ?_
    exact W.zret (v := 0) hx hb hr rfl (fun t ht hW => ⟨by rw [w_X3_meetsGoal, if_pos c_1], ht⟩) (fun q h => absurd h List.not_mem_nil) dX3_meetsGoal_44
  · refine lv_iconst (v := 1) hx hb dX3_meetsGoal_39 (by decide) ?_
    refine lv_goto (tgt := 44) hx hb dX3_meetsGoal_40 (by decide) ?_
    exact W.zret (v := 1) hx hb hr rfl (fun t ht hW => ⟨by rw [w_X3_meetsGoal, if_neg c_1], ht⟩) (fun q h => absurd h List.not_mem_nil) dX3_meetsGoal_44

def w_X3_meetsGoals (S : SeaT) (T : TalT) : Int32 := if al (fun j => decide (¬ w_X3_meetsGoal S T j = 0)) 8 = true then 1 else 0
set_option maxHeartbeats 4000000 in
set_option maxRecDepth 100000 in
theorem c_X3_meetsGoals (l : Launch) (k : KT) (a : Nat → Nat) (S : SeaT) (T : TalT) (dr : Int64) (tr : Int64) (C : ChoT) (F : (Nat → Int32)) (G : GoT)   : MR l yX3_meetsGoals cX3_meetsGoals 2 (some .boolean) (rz 1 21) k [.ref (a 11)] (xW k a S T dr tr C F G) (.int (w_X3_meetsGoals S T)) := by
  refine Met.ofW (cc := cX3_meetsGoals) (maxL := 2) (ret := (some .boolean)) (by decide) rfl ?_
  intro p e s m args below meth c s₁ B hml hv
  obtain ⟨rfl, hP, hK⟩ := hv
  have hx := B.exec
  have hb := B.bytes
  have hr := B.returns
  have hU : ∀ w ∈ wsL_law, w.before [.ref (a 11)].toArray s = true := fun w h => atoms_spec (ws := Cond.code yX3_meetsGoals cX3_meetsGoals 2 (some .boolean) :: wsL_law) B.pre w (List.mem_cons_of_mem _ h)
  have hown : s.vm.findClass RX3 = some m.cls := findClass_of_methodNamed B.named
  have hlocks := B.notSynchronized
  have hF : CF p m c cX3_meetsGoals 2 s [.ref (a 11)].toArray RX3 := ⟨hx, hb, hml, hown, hU⟩
  have hl := lv_entry ([.ref (a 11)] : List Value) (n := 2) (Nat.le_of_ble_eq_true rfl)
  rw [lg_entry_eq]
  generalize (lg_sl ([.ref (a 11)] : List Value) ++ List.replicate (2 - (lg_sl ([.ref (a 11)] : List Value)).length) Slot.unset).toArray = ls at hl ⊢
  have hl : lv_has ls 2 [(0, .ref (a 11))] := hl
  refine lv_iconst (v := 0) hx hb dX3_meetsGoals_0 (by decide) ?_
  refine lv_istore_n (lv' := [(1, .int 0), (0, .ref (a 11))]) hx hb dX3_meetsGoals_1 rfl hl (by decide) rfl (fun ls hl => ?_)
  have loop_i : ∀ (ri i : Nat), i + ri * 1 = 8 → ∀ (ls : Array Slot) , lv_has ls 2 [(1, .int (nI i)), (0, .ref (a 11))] → (∀ j, j < i → ¬ w_X3_meetsGoal S T j = 0) → WR p l e s m below meth c yX3_meetsGoals cX3_meetsGoals 2 (some .boolean) (rz 1 21) [.ref (a 11)] (.int (w_X3_meetsGoals S T)) (F0 m 2 ls []) := by
    intro ri
    induction ri with
    | zero =>
      intro i hi_i ls hl hv_i
      have he_i : 8 = i := by omega
      subst he_i
      refine lv_iload_n hx hb dX3_meetsGoals_2 rfl (lv_at hl 0 rfl) ?_
      refine lv_bipush (v := 8) hx hb dX3_meetsGoals_3 (by decide) ?_
      refine xb_ge (tgt := 24) hx hb dX3_meetsGoals_5 (by decide) (fun c_1 => ?_) (fun c9 => absurd c9 (nI_nlt (a := 8) (b := 8) (Nat.le_refl _) (by omega)))
      refine lv_iconst (v := 1) hx hb dX3_meetsGoals_24 (by decide) ?_
      exact W.zret (v := 1) hx hb hr rfl (fun t ht hW => ⟨by rw [w_X3_meetsGoals, if_pos (al_iff.mpr (fun j hj => decide_eq_true (hv_i j hj)))], ht⟩) (fun q h => absurd h List.not_mem_nil) dX3_meetsGoals_25
    | succ ri ih_i =>
      intro i hi_i ls hl hv_i
      have ht_i : i < 8 := by omega
      refine lv_iload_n hx hb dX3_meetsGoals_2 rfl (lv_at hl 0 rfl) ?_
      refine lv_bipush (v := 8) hx hb dX3_meetsGoals_3 (by decide) ?_
      refine xb_ge (tgt := 24) hx hb dX3_meetsGoals_5 (by decide) (fun c9 => absurd (nI_lt (a := i) (b := 8) (by omega) (by omega)) c9) (fun c_2 => ?_)
      refine lv_aload_n hx hb dX3_meetsGoals_8 rfl (lv_at hl 1 rfl) ?_
      refine lv_iload_n hx hb dX3_meetsGoals_9 rfl (lv_at hl 0 rfl) ?_
      refine rcV (n := 1) (As := [.int (nI i)]) (rest := []) hF (c_X3_meetsGoal l k a S T dr tr C F G (nI i) i (by omega) rfl) (hP) hK 11 (ci := 3) rfl rfl rfl uC_X3_meetsGoal uN_X3 uM_X3_88 uI_X3_meetsGoal uE_X3_meetsGoal (by decide +kernel) rfl ⟨Nat.le_of_ble_eq_true rfl, Nat.le_of_ble_eq_true rfl⟩ ⟨Nat.zero_le _, Nat.zero_le _⟩ hl.1 rfl (Nat.le_of_ble_eq_true rfl) dX3_meetsGoals_10 ?_
      refine lv_if_ne (tgt := 18) hx hb dX3_meetsGoals_13 (by decide) (fun c_3 => ?_) (fun c_3 => ?_)
      · refine lv_iinc (v := nI (i + 1)) (lv' := [(1, .int (nI (i + 1))), (0, .ref (a 11))]) hx hb dX3_meetsGoals_18 hl (k := 0) rfl (nI_add i 1) (by decide) rfl (fun ls hl => ?_)
        refine lv_goto (tgt := 2) hx hb dX3_meetsGoals_21 (by decide) ?_
        exact ih_i (i + 1) (by omega) ls (lv_sub hl [0, 1] rfl) (lt_s hv_i c_3)
      · refine lv_iconst (v := 0) hx hb dX3_meetsGoals_16 (by decide) ?_
        exact W.zret (v := 0) hx hb hr rfl (fun t ht hW => ⟨by rw [w_X3_meetsGoals, if_neg (by rw [al_not ht_i (by simp [c_3])]; decide)], ht⟩) (fun q h => absurd h List.not_mem_nil) dX3_meetsGoals_17
  exact loop_i 8 0 (by omega) ls (lv_sub hl [0, 1] rfl) (fun j h => absurd h (Nat.not_lt_zero j))

def w_X3_isFair (S : SeaT) (T : TalT) : Int32 := if al (fun j => decide (¬ (S_portTotals S j * S_fairAbove S) < (T_hours T j * S_fairBelow S))) 4 = true then 1 else 0
set_option maxHeartbeats 4000000 in
set_option maxRecDepth 100000 in
theorem c_X3_isFair (l : Launch) (k : KT) (a : Nat → Nat) (S : SeaT) (T : TalT) (dr : Int64) (tr : Int64) (C : ChoT) (F : (Nat → Int32)) (G : GoT)   : MR l yX3_isFair cX3_isFair 2 (some .boolean) (rz 0 0) k [.ref (a 11)] (xW k a S T dr tr C F G) (.int (w_X3_isFair S T)) := by
  refine Met.ofW (cc := cX3_isFair) (maxL := 2) (ret := (some .boolean)) (by decide) rfl ?_
  intro p e s m args below meth c s₁ B hml hv
  obtain ⟨rfl, hP, hK⟩ := hv
  have hx := B.exec
  have hb := B.bytes
  have hr := B.returns
  have hU : ∀ w ∈ wsL_law, w.before [.ref (a 11)].toArray s = true := fun w h => atoms_spec (ws := Cond.code yX3_isFair cX3_isFair 2 (some .boolean) :: wsL_law) B.pre w (List.mem_cons_of_mem _ h)
  have hown : s.vm.findClass RX3 = some m.cls := findClass_of_methodNamed B.named
  have hlocks := B.notSynchronized
  have hF : CF p m c cX3_isFair 2 s [.ref (a 11)].toArray RX3 := ⟨hx, hb, hml, hown, hU⟩
  have hl := lv_entry ([.ref (a 11)] : List Value) (n := 2) (Nat.le_of_ble_eq_true rfl)
  rw [lg_entry_eq]
  generalize (lg_sl ([.ref (a 11)] : List Value) ++ List.replicate (2 - (lg_sl ([.ref (a 11)] : List Value)).length) Slot.unset).toArray = ls at hl ⊢
  have hl : lv_has ls 2 [(0, .ref (a 11))] := hl
  refine lv_iconst (v := 0) hx hb dX3_isFair_0 (by decide) ?_
  refine lv_istore_n (lv' := [(1, .int 0), (0, .ref (a 11))]) hx hb dX3_isFair_1 rfl hl (by decide) rfl (fun ls hl => ?_)
  have loop_i : ∀ (ri i : Nat), i + ri * 1 = 4 → ∀ (ls : Array Slot) , lv_has ls 2 [(1, .int (nI i)), (0, .ref (a 11))] → (∀ j, j < i → ¬ (S_portTotals S j * S_fairAbove S) < (T_hours T j * S_fairBelow S)) → WR p l e s m below meth c yX3_isFair cX3_isFair 2 (some .boolean) (rz 0 0) [.ref (a 11)] (.int (w_X3_isFair S T)) (F0 m 2 ls []) := by
    intro ri
    induction ri with
    | zero =>
      intro i hi_i ls hl hv_i
      have he_i : 4 = i := by omega
      subst he_i
      refine lv_iload_n hx hb dX3_isFair_2 rfl (lv_at hl 0 rfl) ?_
      refine lv_iconst (v := 4) hx hb dX3_isFair_3 (by decide) ?_
      refine xb_ge (tgt := 50) hx hb dX3_isFair_4 (by decide) (fun c_1 => ?_) (fun c9 => absurd c9 (nI_nlt (a := 4) (b := 4) (Nat.le_refl _) (by omega)))
      refine lv_iconst (v := 1) hx hb dX3_isFair_50 (by decide) ?_
      exact W.zret (v := 1) hx hb hr rfl (fun t ht hW => ⟨by rw [w_X3_isFair, if_pos (al_iff.mpr (fun j hj => decide_eq_true (hv_i j hj)))], ht⟩) (fun q h => absurd h List.not_mem_nil) dX3_isFair_51
    | succ ri ih_i =>
      intro i hi_i ls hl hv_i
      have ht_i : i < 4 := by omega
      refine lv_iload_n hx hb dX3_isFair_2 rfl (lv_at hl 0 rfl) ?_
      refine lv_iconst (v := 4) hx hb dX3_isFair_3 (by decide) ?_
      refine xb_ge (tgt := 50) hx hb dX3_isFair_4 (by decide) (fun c9 => absurd (nI_lt (a := i) (b := 4) (by omega) (by omega)) c9) (fun c_2 => ?_)
      refine lv_aload_n hx hb dX3_isFair_7 rfl (lv_at hl 1 rfl) ?_
      refine va_get (D := k.1) (ci := 3) (v := .ref (a 13)) (C := RX3) (T := TX3) (N := 7) hx hb hU inlX3 hown hK.1 hP 11 rfl rfl 2 (by decide) (hU _ uF_X3_19) (fun _ h9 => h9) rfl dX3_isFair_8 ?_
      refine lv_iload_n hx hb dX3_isFair_11 rfl (lv_at hl 0 rfl) ?_
      refine xa_lald hx hb hK.1 hP 13 1 rfl rfl (j := i) rfl (by omega) (by decide) dX3_isFair_12 ?_
      refine lv_aload_n hx hb dX3_isFair_13 rfl (lv_at hl 1 rfl) ?_
      refine va_get (D := k.1) (ci := 3) (v := .ref (a 1)) (C := RX3) (T := TX3) (N := 7) hx hb hU inlX3 hown hK.1 hP 11 rfl rfl 0 (by decide) (hU _ uF_X3_9) (fun _ h9 => h9) rfl dX3_isFair_14 ?_
      refine va_getN (D := k.1) (ci := 2) (v := .long (S_fairBelow S)) (C := RX2) (T := TX2) (N := 16) hx hb hU inlX2 hown hK.1 hP 1 rfl rfl 10 (by decide) (hK.nf nF_X3_101) (fun _ h9 => h9) rfl dX3_isFair_17 ?_
      refine lv_lmul hx hb dX3_isFair_20 ?_
      refine lv_aload_n hx hb dX3_isFair_21 rfl (lv_at hl 1 rfl) ?_
      refine va_get (D := k.1) (ci := 3) (v := .ref (a 1)) (C := RX3) (T := TX3) (N := 7) hx hb hU inlX3 hown hK.1 hP 11 rfl rfl 0 (by decide) (hU _ uF_X3_9) (fun _ h9 => h9) rfl dX3_isFair_22 ?_
      refine va_getN (D := k.1) (ci := 2) (v := .ref (a 8)) (C := RX2) (T := TX2) (N := 16) hx hb hU inlX2 hown hK.1 hP 1 rfl rfl 6 (by decide) (hK.nf nF_X3_104) (fun _ h9 => h9) rfl dX3_isFair_25 ?_
      refine lv_iload_n hx hb dX3_isFair_28 rfl (lv_at hl 0 rfl) ?_
      refine xa_lald hx hb hK.1 hP 8 1 rfl rfl (j := i) rfl (by omega) (by decide) dX3_isFair_29 ?_
      refine lv_aload_n hx hb dX3_isFair_30 rfl (lv_at hl 1 rfl) ?_
      refine va_get (D := k.1) (ci := 3) (v := .ref (a 1)) (C := RX3) (T := TX3) (N := 7) hx hb hU inlX3 hown hK.1 hP 11 rfl rfl 0 (by decide) (hU _ uF_X3_9) (fun _ h9 => h9) rfl dX3_isFair_31 ?_
      refine va_getN (D := k.1) (ci := 2) (v := .long (S_fairAbove S)) (C := RX2) (T := TX2) (N := 16) hx hb hU inlX2 hown hK.1 hP 1 rfl rfl 9 (by decide) (hK.nf nF_X3_107) (fun _ h9 => h9) rfl dX3_isFair_34 ?_
      refine lv_lmul hx hb dX3_isFair_37 ?_
      refine xl_le (tgt := 44) hx hb dX3_isFair_38 dX3_isFair_39 (by decide) (fun c_3 => ?_) (fun c_3 => ?_)
      · refine lv_iinc (v := nI (i + 1)) (lv' := [(1, .int (nI (i + 1))), (0, .ref (a 11))]) hx hb dX3_isFair_44 hl (k := 0) rfl (nI_add i 1) (by decide) rfl (fun ls hl => ?_)
        refine lv_goto (tgt := 2) hx hb dX3_isFair_47 (by decide) ?_
        exact ih_i (i + 1) (by omega) ls (lv_sub hl [0, 1] rfl) (lt_s hv_i c_3)
      · refine lv_iconst (v := 0) hx hb dX3_isFair_42 (by decide) ?_
        exact W.zret (v := 0) hx hb hr rfl (fun t ht hW => ⟨by rw [w_X3_isFair, if_neg (by rw [al_not ht_i (by simp [c_3])]; decide)], ht⟩) (fun q h => absurd h List.not_mem_nil) dX3_isFair_43
  exact loop_i 4 0 (by omega) ls (lv_sub hl [0, 1] rfl) (fun j h => absurd h (Nat.not_lt_zero j))

def w_X3_stands (S : SeaT) (T : TalT) : Int32 := if ((S_needed S) &&& ((T_cells T) ^^^ (-1))) = 0 then if ((S_barred S) &&& (T_cells T)) = 0 then if (w_bitCount (T_cells T)) < (S_fewest S) then 0 else if (T_farPairs T) = 0 then if (w_X3_meetsGoals S T) = 0 then 0 else if (w_X3_isFair S T) = 0 then 0 else 1 else 0 else 0 else 0
set_option maxHeartbeats 4000000 in
set_option maxRecDepth 100000 in
theorem c_X3_stands (l : Launch) (k : KT) (a : Nat → Nat) (S : SeaT) (T : TalT) (dr : Int64) (tr : Int64) (C : ChoT) (F : (Nat → Int32)) (G : GoT)   : MR l yX3_stands cX3_stands 1 (some .boolean) (rz 2 42) k [.ref (a 11)] (xW k a S T dr tr C F G) (.int (w_X3_stands S T)) := by
  refine Met.ofW (cc := cX3_stands) (maxL := 1) (ret := (some .boolean)) (by decide) rfl ?_
  intro p e s m args below meth c s₁ B hml hv
  obtain ⟨rfl, hP, hK⟩ := hv
  have hx := B.exec
  have hb := B.bytes
  have hr := B.returns
  have hU : ∀ w ∈ wsL_law, w.before [.ref (a 11)].toArray s = true := fun w h => atoms_spec (ws := Cond.code yX3_stands cX3_stands 1 (some .boolean) :: wsL_law) B.pre w (List.mem_cons_of_mem _ h)
  have hown : s.vm.findClass RX3 = some m.cls := findClass_of_methodNamed B.named
  have hlocks := B.notSynchronized
  have hF : CF p m c cX3_stands 1 s [.ref (a 11)].toArray RX3 := ⟨hx, hb, hml, hown, hU⟩
  have hl := lv_entry ([.ref (a 11)] : List Value) (n := 1) (Nat.le_of_ble_eq_true rfl)
  rw [lg_entry_eq]
  generalize (lg_sl ([.ref (a 11)] : List Value) ++ List.replicate (1 - (lg_sl ([.ref (a 11)] : List Value)).length) Slot.unset).toArray = ls at hl ⊢
  have hl : lv_has ls 1 [(0, .ref (a 11))] := hl
  refine lv_aload_n hx hb dX3_stands_0 rfl (lv_at hl 0 rfl) ?_
  refine va_get (D := k.1) (ci := 3) (v := .ref (a 1)) (C := RX3) (T := TX3) (N := 7) hx hb hU inlX3 hown hK.1 hP 11 rfl rfl 0 (by decide) (hU _ uF_X3_9) (fun _ h9 => h9) rfl dX3_stands_1 ?_
  refine va_getN (D := k.1) (ci := 2) (v := .int (S_needed S)) (C := RX2) (T := TX2) (N := 16) hx hb hU inlX2 hown hK.1 hP 1 rfl rfl 13 (by decide) (hK.nf nF_X3_72) (fun _ h9 => h9) rfl dX3_stands_4 ?_
  refine lv_aload_n hx hb dX3_stands_7 rfl (lv_at hl 0 rfl) ?_
  refine va_get (D := k.1) (ci := 3) (v := .int (T_cells T)) (C := RX3) (T := TX3) (N := 7) hx hb hU inlX3 hown hK.1 hP 11 rfl rfl 3 (by decide) (hU _ uF_X3_22) (fun _ h9 => h9) rfl dX3_stands_8 ?_
  refine lv_iconst (v := (-1)) hx hb dX3_stands_11 (by decide) ?_
  refine lv_ixor hx hb dX3_stands_12 ?_
  refine lv_iand hx hb dX3_stands_13 ?_
  refine lv_if_ne (tgt := 74) hx hb dX3_stands_14 (by decide) (fun c_1 => ?_) (fun c_1 => ?_)
  · refine lv_iconst (v := 0) hx hb dX3_stands_74 (by decide) ?_
    exact W.zret (v := 0) hx hb hr rfl (fun t ht hW => ⟨by rw [w_X3_stands, if_neg c_1], ht⟩) (fun q h => absurd h List.not_mem_nil) dX3_stands_75
  · refine lv_aload_n hx hb dX3_stands_17 rfl (lv_at hl 0 rfl) ?_
    refine va_get (D := k.1) (ci := 3) (v := .ref (a 1)) (C := RX3) (T := TX3) (N := 7) hx hb hU inlX3 hown hK.1 hP 11 rfl rfl 0 (by decide) (hU _ uF_X3_9) (fun _ h9 => h9) rfl dX3_stands_18 ?_
    refine va_getN (D := k.1) (ci := 2) (v := .int (S_barred S)) (C := RX2) (T := TX2) (N := 16) hx hb hU inlX2 hown hK.1 hP 1 rfl rfl 14 (by decide) (hK.nf nF_X3_75) (fun _ h9 => h9) rfl dX3_stands_21 ?_
    refine lv_aload_n hx hb dX3_stands_24 rfl (lv_at hl 0 rfl) ?_
    refine va_get (D := k.1) (ci := 3) (v := .int (T_cells T)) (C := RX3) (T := TX3) (N := 7) hx hb hU inlX3 hown hK.1 hP 11 rfl rfl 3 (by decide) (hU _ uF_X3_22) (fun _ h9 => h9) rfl dX3_stands_25 ?_
    refine lv_iand hx hb dX3_stands_28 ?_
    refine lv_if_ne (tgt := 74) hx hb dX3_stands_29 (by decide) (fun c_2 => ?_) (fun c_2 => ?_)
    · refine lv_iconst (v := 0) hx hb dX3_stands_74 (by decide) ?_
      exact W.zret (v := 0) hx hb hr rfl (fun t ht hW => ⟨by rw [w_X3_stands, if_pos c_1, if_neg c_2], ht⟩) (fun q h => absurd h List.not_mem_nil) dX3_stands_75
    · refine lv_aload_n hx hb dX3_stands_32 rfl (lv_at hl 0 rfl) ?_
      refine va_get (D := k.1) (ci := 3) (v := .int (T_cells T)) (C := RX3) (T := TX3) (N := 7) hx hb hU inlX3 hown hK.1 hP 11 rfl rfl 3 (by decide) (hU _ uF_X3_22) (fun _ h9 => h9) rfl dX3_stands_33 ?_
      refine rcS (n := 1) (As := [.int (T_cells T)]) (rest := []) hF (c_J6_bitCount_0f7a4 l k (T_cells T)) (hP.sub (ws' := []) [] rfl) hK uC_J6_bitCount_0f7a4 uN_J6 uM_X3_51 uS_J6_bitCount_0f7a4 (by decide +kernel) rfl ⟨Nat.le_of_ble_eq_true rfl, Nat.le_of_ble_eq_true rfl⟩ ⟨Nat.zero_le _, Nat.zero_le _⟩ hl.1 rfl (Nat.le_of_ble_eq_true rfl) dX3_stands_36 ?_
      refine lv_aload_n hx hb dX3_stands_39 rfl (lv_at hl 0 rfl) ?_
      refine va_get (D := k.1) (ci := 3) (v := .ref (a 1)) (C := RX3) (T := TX3) (N := 7) hx hb hU inlX3 hown hK.1 hP 11 rfl rfl 0 (by decide) (hU _ uF_X3_9) (fun _ h9 => h9) rfl dX3_stands_40 ?_
      refine va_getN (D := k.1) (ci := 2) (v := .int (S_fewest S)) (C := RX2) (T := TX2) (N := 16) hx hb hU inlX2 hown hK.1 hP 1 rfl rfl 15 (by decide) (hK.nf nF_X3_78) (fun _ h9 => h9) rfl dX3_stands_43 ?_
      refine xb_lt (tgt := 74) hx hb dX3_stands_46 (by decide) (fun c_3 => ?_) (fun c_3 => ?_)
      · refine lv_iconst (v := 0) hx hb dX3_stands_74 (by decide) ?_
        exact W.zret (v := 0) hx hb hr rfl (fun t ht hW => ⟨by rw [w_X3_stands, if_pos c_1, if_pos c_2, if_pos c_3], ht⟩) (fun q h => absurd h List.not_mem_nil) dX3_stands_75
      · refine lv_aload_n hx hb dX3_stands_49 rfl (lv_at hl 0 rfl) ?_
        refine va_get (D := k.1) (ci := 3) (v := .int (T_farPairs T)) (C := RX3) (T := TX3) (N := 7) hx hb hU inlX3 hown hK.1 hP 11 rfl rfl 4 (by decide) (hU _ uF_X3_26) (fun _ h9 => h9) rfl dX3_stands_50 ?_
        refine lv_if_ne (tgt := 74) hx hb dX3_stands_53 (by decide) (fun c_4 => ?_) (fun c_4 => ?_)
        · refine lv_iconst (v := 0) hx hb dX3_stands_74 (by decide) ?_
          exact W.zret (v := 0) hx hb hr rfl (fun t ht hW => ⟨by rw [w_X3_stands, if_pos c_1, if_pos c_2, if_neg c_3, if_neg c_4], ht⟩) (fun q h => absurd h List.not_mem_nil) dX3_stands_75
        · refine lv_aload_n hx hb dX3_stands_56 rfl (lv_at hl 0 rfl) ?_
          refine rcV (n := 0) (As := []) (rest := []) hF (c_X3_meetsGoals l k a S T dr tr C F G  ) (hP) hK 11 (ci := 3) rfl rfl rfl uC_X3_meetsGoals uN_X3 uM_X3_81 uI_X3_meetsGoals uE_X3_meetsGoals (by decide +kernel) rfl ⟨Nat.le_of_ble_eq_true rfl, Nat.le_of_ble_eq_true rfl⟩ ⟨Nat.zero_le _, Nat.zero_le _⟩ hl.1 rfl (Nat.le_of_ble_eq_true rfl) dX3_stands_57 ?_
          refine lv_if_eq (tgt := 74) hx hb dX3_stands_60 (by decide) (fun c_5 => ?_) (fun c_5 => ?_)
          · refine lv_iconst (v := 0) hx hb dX3_stands_74 (by decide) ?_
            exact W.zret (v := 0) hx hb hr rfl (fun t ht hW => ⟨by rw [w_X3_stands, if_pos c_1, if_pos c_2, if_neg c_3, if_pos c_4, if_pos c_5], ht⟩) (fun q h => absurd h List.not_mem_nil) dX3_stands_75
          · refine lv_aload_n hx hb dX3_stands_63 rfl (lv_at hl 0 rfl) ?_
            refine rcV (n := 0) (As := []) (rest := []) hF (c_X3_isFair l k a S T dr tr C F G  ) (hP) hK 11 (ci := 3) rfl rfl rfl uC_X3_isFair uN_X3 uM_X3_85 uI_X3_isFair uE_X3_isFair (by decide +kernel) rfl ⟨Nat.le_of_ble_eq_true rfl, Nat.le_of_ble_eq_true rfl⟩ ⟨Nat.zero_le _, Nat.zero_le _⟩ hl.1 rfl (Nat.le_of_ble_eq_true rfl) dX3_stands_64 ?_
            refine lv_if_eq (tgt := 74) hx hb dX3_stands_67 (by decide) (fun c_6 => ?_) (fun c_6 => ?_)
            · refine lv_iconst (v := 0) hx hb dX3_stands_74 (by decide) ?_
              exact W.zret (v := 0) hx hb hr rfl (fun t ht hW => ⟨by rw [w_X3_stands, if_pos c_1, if_pos c_2, if_neg c_3, if_pos c_4, if_neg c_5, if_pos c_6], ht⟩) (fun q h => absurd h List.not_mem_nil) dX3_stands_75
            · refine lv_iconst (v := 1) hx hb dX3_stands_70 (by decide) ?_
              refine lv_goto (tgt := 75) hx hb dX3_stands_71 (by decide) ?_
              exact W.zret (v := 1) hx hb hr rfl (fun t ht hW => ⟨by rw [w_X3_stands, if_pos c_1, if_pos c_2, if_neg c_3, if_pos c_4, if_neg c_5, if_neg c_6], ht⟩) (fun q h => absurd h List.not_mem_nil) dX3_stands_75

def f_bg (S : SeaT) (j : Nat) (oth : Int32) : Nat → Int64 := fun b => if bt oth b then -(S_borders S (j * 24 + b)) else S_borders S (j * 24 + b)
set_option maxHeartbeats 4000000 in
set_option maxRecDepth 100000 in
theorem c_X3_borderGainedBy (l : Launch) (k : KT) (a : Nat → Nat) (S : SeaT) (T : TalT) (dr : Int64) (tr : Int64) (C : ChoT) (F : (Nat → Int32)) (G : GoT) (ce : Int32) (oth : Int32) (n : Nat) (hn : n ≤ 24) (hc : S_cells S = nI n) (j : Nat) (hj : j < 24) (ej : ce = nI j) : MR l yX3_borderGainedBy cX3_borderGainedBy 8 (some .long) (rz 1 21) k [.ref (a 11), .int ce, .int oth] (xW k a S T dr tr C F G) (.long (sm (f_bg S j oth) n)) := by
  refine Met.ofW (cc := cX3_borderGainedBy) (maxL := 8) (ret := (some .long)) (by decide) rfl ?_
  intro p e s m args below meth c s₁ B hml hv
  obtain ⟨rfl, hP, hK⟩ := hv
  have hx := B.exec
  have hb := B.bytes
  have hr := B.returns
  have hU : ∀ w ∈ wsL_law, w.before [.ref (a 11), .int ce, .int oth].toArray s = true := fun w h => atoms_spec (ws := Cond.code yX3_borderGainedBy cX3_borderGainedBy 8 (some .long) :: wsL_law) B.pre w (List.mem_cons_of_mem _ h)
  have hown : s.vm.findClass RX3 = some m.cls := findClass_of_methodNamed B.named
  have hlocks := B.notSynchronized
  have hF : CF p m c cX3_borderGainedBy 8 s [.ref (a 11), .int ce, .int oth].toArray RX3 := ⟨hx, hb, hml, hown, hU⟩
  have hl := lv_entry ([.ref (a 11), .int ce, .int oth] : List Value) (n := 8) (Nat.le_of_ble_eq_true rfl)
  rw [lg_entry_eq]
  generalize (lg_sl ([.ref (a 11), .int ce, .int oth] : List Value) ++ List.replicate (8 - (lg_sl ([.ref (a 11), .int ce, .int oth] : List Value)).length) Slot.unset).toArray = ls at hl ⊢
  have hl : lv_has ls 8 [(0, .ref (a 11)), (1, .int ce), (2, .int oth)] := hl
  refine lv_lconst (v := 0) hx hb dX3_borderGainedBy_0 (by decide) ?_
  refine lv_lstore_n (lv' := [(3, .long 0), (0, .ref (a 11)), (1, .int ce), (2, .int oth)]) hx hb dX3_borderGainedBy_1 rfl hl (by decide) rfl (fun ls hl => ?_)
  refine lv_iconst (v := 0) hx hb dX3_borderGainedBy_2 (by decide) ?_
  refine lv_istore (lv' := [(5, .int 0), (3, .long 0), (0, .ref (a 11)), (1, .int ce), (2, .int oth)]) hx hb dX3_borderGainedBy_3 hl (by decide) rfl (fun ls hl => ?_)
  have loop_i : ∀ (ri i : Nat), i + ri * 1 = n → ∀ (ls : Array Slot) , lv_has ls 8 [(5, .int (nI i)), (3, .long (sm (f_bg S j oth) i)), (0, .ref (a 11)), (1, .int ce), (2, .int oth)] → WR p l e s m below meth c yX3_borderGainedBy cX3_borderGainedBy 8 (some .long) (rz 1 21) [.ref (a 11), .int ce, .int oth] (.long (sm (f_bg S j oth) n)) (F0 m 5 ls []) := by
    intro ri
    induction ri with
    | zero =>
      intro i hi_i ls hl
      have he_i : n = i := by omega
      subst he_i
      refine lv_iload hx hb dX3_borderGainedBy_5 (lv_at hl 0 rfl) ?_
      refine lv_aload_n hx hb dX3_borderGainedBy_7 rfl (lv_at hl 2 rfl) ?_
      refine va_get (D := k.1) (ci := 3) (v := .ref (a 1)) (C := RX3) (T := TX3) (N := 7) hx hb hU inlX3 hown hK.1 hP 11 rfl rfl 0 (by decide) (hU _ uF_X3_9) (fun _ h9 => h9) rfl dX3_borderGainedBy_8 ?_
      refine va_getN (D := k.1) (ci := 2) (v := .int (S_cells S)) (C := RX2) (T := TX2) (N := 16) hx hb hU inlX2 hown hK.1 hP 1 rfl rfl 12 (by decide) (hK.nf nF_X3_36) (fun _ h9 => h9) rfl dX3_borderGainedBy_11 ?_
      refine xb_ge (tgt := 60) hx hb dX3_borderGainedBy_14 (by decide) (fun c_1 => ?_) (fun c9 => absurd c9 (by rw [hc]; exact nI_nlt (a := n) (b := n) (Nat.le_refl _) (by omega)))
      refine lv_lload_n hx hb dX3_borderGainedBy_60 rfl (lv_at hl 1 rfl) ?_
      exact W.lret (v := (sm (f_bg S j oth) n)) hx hb hr (fun t ht hW => ⟨rfl, ht⟩) (fun q h => absurd h List.not_mem_nil) dX3_borderGainedBy_61
    | succ ri ih_i =>
      intro i hi_i ls hl
      have ht_i : i < n := by omega
      refine lv_iload hx hb dX3_borderGainedBy_5 (lv_at hl 0 rfl) ?_
      refine lv_aload_n hx hb dX3_borderGainedBy_7 rfl (lv_at hl 2 rfl) ?_
      refine va_get (D := k.1) (ci := 3) (v := .ref (a 1)) (C := RX3) (T := TX3) (N := 7) hx hb hU inlX3 hown hK.1 hP 11 rfl rfl 0 (by decide) (hU _ uF_X3_9) (fun _ h9 => h9) rfl dX3_borderGainedBy_8 ?_
      refine va_getN (D := k.1) (ci := 2) (v := .int (S_cells S)) (C := RX2) (T := TX2) (N := 16) hx hb hU inlX2 hown hK.1 hP 1 rfl rfl 12 (by decide) (hK.nf nF_X3_36) (fun _ h9 => h9) rfl dX3_borderGainedBy_11 ?_
      refine xb_ge (tgt := 60) hx hb dX3_borderGainedBy_14 (by decide) (fun c9 => absurd (by rw [hc]; exact nI_lt (a := i) (b := n) (by omega) (by omega)) c9) (fun c_2 => ?_)
      refine lv_aload_n hx hb dX3_borderGainedBy_17 rfl (lv_at hl 2 rfl) ?_
      refine va_get (D := k.1) (ci := 3) (v := .ref (a 1)) (C := RX3) (T := TX3) (N := 7) hx hb hU inlX3 hown hK.1 hP 11 rfl rfl 0 (by decide) (hU _ uF_X3_9) (fun _ h9 => h9) rfl dX3_borderGainedBy_18 ?_
      refine va_getN (D := k.1) (ci := 2) (v := .ref (a 5)) (C := RX2) (T := TX2) (N := 16) hx hb hU inlX2 hown hK.1 hP 1 rfl rfl 3 (by decide) (hK.nf nF_X3_66) (fun _ h9 => h9) rfl dX3_borderGainedBy_21 ?_
      refine lv_iload_n hx hb dX3_borderGainedBy_24 rfl (lv_at hl 3 rfl) ?_
      refine lv_bipush (v := 24) hx hb dX3_borderGainedBy_25 (by decide) ?_
      refine lv_imul hx hb dX3_borderGainedBy_27 ?_
      refine lv_iload hx hb dX3_borderGainedBy_28 (lv_at hl 0 rfl) ?_
      refine lv_iadd hx hb dX3_borderGainedBy_30 ?_
      refine xa_lald hx hb hK.1 hP 5 1 rfl rfl (j := j * 24 + i) (by rw [ej]; exact ix24 j i) (by omega) (by decide) dX3_borderGainedBy_31 ?_
      refine lv_lstore (lv' := [(6, .long ((S_borders S) (j * 24 + i))), (5, .int (nI i)), (3, .long (sm (f_bg S j oth) i)), (0, .ref (a 11)), (1, .int ce), (2, .int oth)]) hx hb dX3_borderGainedBy_32 hl (by decide) rfl (fun ls hl => ?_)
      refine lv_lload_n hx hb dX3_borderGainedBy_34 rfl (lv_at hl 2 rfl) ?_
      refine lv_iload_n hx hb dX3_borderGainedBy_35 rfl (lv_at hl 5 rfl) ?_
      refine lv_iload hx hb dX3_borderGainedBy_36 (lv_at hl 1 rfl) ?_
      refine rcSN (n := 2) (As := [.int oth, .int (nI i)]) (rest := [.long (sm (f_bg S j oth) i)]) hF (c_X4_hasBit l k oth (nI i)) (hP.sub (ws' := []) [] rfl) hK uC_X4_hasBit uN_X4 nM_X3_39 uS_X4_hasBit (by decide +kernel) rfl ⟨Nat.le_of_ble_eq_true rfl, Nat.le_of_ble_eq_true rfl⟩ ⟨Nat.zero_le _, Nat.zero_le _⟩ hl.1 rfl (Nat.le_of_ble_eq_true rfl) dX3_borderGainedBy_38 ?_
      refine lv_if_eq (tgt := 50) hx hb dX3_borderGainedBy_41 (by decide) (fun c_3 => ?_) (fun c_3 => ?_)
      · refine lv_lload hx hb dX3_borderGainedBy_50 (lv_at hl 0 rfl) ?_
        refine lv_ladd hx hb dX3_borderGainedBy_52 ?_
        refine lv_lstore_n (lv' := [(3, .long ((sm (f_bg S j oth) i) + ((S_borders S) (j * 24 + i)))), (6, .long ((S_borders S) (j * 24 + i))), (5, .int (nI i)), (0, .ref (a 11)), (1, .int ce), (2, .int oth)]) hx hb dX3_borderGainedBy_53 rfl hl (by decide) rfl (fun ls hl => ?_)
        refine lv_iinc (v := nI (i + 1)) (lv' := [(5, .int (nI (i + 1))), (3, .long ((sm (f_bg S j oth) i) + ((S_borders S) (j * 24 + i)))), (6, .long ((S_borders S) (j * 24 + i))), (0, .ref (a 11)), (1, .int ce), (2, .int oth)]) hx hb dX3_borderGainedBy_54 hl (k := 2) rfl (nI_add i 1) (by decide) rfl (fun ls hl => ?_)
        refine lv_goto (tgt := 5) hx hb dX3_borderGainedBy_57 (by decide) ?_
        have eb : bt oth i = false := (hb0 oth (by omega)).mp c_3
        have hq : ((sm (f_bg S j oth) i) + ((S_borders S) (j * 24 + i))) = (sm (f_bg S j oth) (i + 1)) := by simp [sm, f_bg, eb]
        rw [hq] at hl
        exact ih_i (i + 1) (by omega) ls (lv_sub hl [0, 1, 3, 4, 5] rfl)
      · refine lv_lload hx hb dX3_borderGainedBy_44 (lv_at hl 0 rfl) ?_
        refine lv_lneg hx hb dX3_borderGainedBy_46 ?_
        refine lv_goto (tgt := 52) hx hb dX3_borderGainedBy_47 (by decide) ?_
        refine lv_ladd hx hb dX3_borderGainedBy_52 ?_
        refine lv_lstore_n (lv' := [(3, .long ((sm (f_bg S j oth) i) + (-((S_borders S) (j * 24 + i))))), (6, .long ((S_borders S) (j * 24 + i))), (5, .int (nI i)), (0, .ref (a 11)), (1, .int ce), (2, .int oth)]) hx hb dX3_borderGainedBy_53 rfl hl (by decide) rfl (fun ls hl => ?_)
        refine lv_iinc (v := nI (i + 1)) (lv' := [(5, .int (nI (i + 1))), (3, .long ((sm (f_bg S j oth) i) + (-((S_borders S) (j * 24 + i))))), (6, .long ((S_borders S) (j * 24 + i))), (0, .ref (a 11)), (1, .int ce), (2, .int oth)]) hx hb dX3_borderGainedBy_54 hl (k := 2) rfl (nI_add i 1) (by decide) rfl (fun ls hl => ?_)
        refine lv_goto (tgt := 5) hx hb dX3_borderGainedBy_57 (by decide) ?_
        have eb : bt oth i = true := (hb1 oth (by omega)).mp c_3
        have hq : ((sm (f_bg S j oth) i) + (-((S_borders S) (j * 24 + i)))) = (sm (f_bg S j oth) (i + 1)) := by simp [sm, f_bg, eb]
        rw [hq] at hl
        exact ih_i (i + 1) (by omega) ls (lv_sub hl [0, 1, 3, 4, 5] rfl)
  exact loop_i n 0 (by omega) ls (lv_sub hl [0, 1, 2, 3, 4] rfl)
end
section
/-- the sign of an exchange of cell j, and the others -/
def sgI (T : TalT) (j : Nat) : Int32 := if bt (T_cells T) j then (-1) else 1
def othT (T : TalT) (j : Nat) : Int32 := T_cells T &&& ((1 <<< (nI j &&& 31)) ^^^ (-1))
def ex1 (S : SeaT) (T : TalT) (n j : Nat) : TalT :=
  sT_borderLength (sT_cellCosts (sT_farPairs T (T_farPairs T + (sgI T j * w_bitCount (S_tooFar S j &&& othT T j)))) (T_cellCosts T + (Int32.toInt64 (sgI T j) * S_costs S j))) (T_borderLength T + (Int32.toInt64 (sgI T j) * sm (f_bg S j (othT T j)) n))
def exA (S : SeaT) (T : TalT) (j : Nat) : Nat → Nat → Int64
  | 0 => T_amounts T
  | i + 1 => vp_updL (exA S T j i) i (exA S T j i i + (Int32.toInt64 (sgI T j) * S_amounts S (j * 8 + i)))
def exH (S : SeaT) (T : TalT) (j : Nat) : Nat → Nat → Int64
  | 0 => T_hours T
  | i + 1 => vp_updL (exH S T j i) i (exH S T j i i + (Int32.toInt64 (sgI T j) * S_hours S (j * 4 + i)))
def ex_T (S : SeaT) (T : TalT) (n j : Nat) : TalT :=
  sT_cells (sT_hours (sT_amounts (ex1 S T n j) (exA S T j 8)) (exH S T j 4)) (T_cells T ^^^ (1 <<< (nI j &&& 31)))

set_option maxHeartbeats 4000000 in
set_option maxRecDepth 100000 in
theorem c_X3_exchange (l : Launch) (k : KT) (a : Nat → Nat) (S : SeaT) (T : TalT) (dr : Int64) (tr : Int64) (C : ChoT) (F : (Nat → Int32)) (G : GoT) (j : Nat) (n : Nat) (hn : n ≤ 24) (hc : S_cells S = nI n) (hj : j < 24) : MW l yX3_exchange cX3_exchange 5 none (rz 2 48) k [.ref (a 11), .int (nI j)] (xW k a S T dr tr C F G) none (xW k a S (ex_T S T n j) dr tr C F G) := by
  intro sz
  refine Met.ofW (cc := cX3_exchange) (maxL := 5) (ret := none) (by decide) rfl ?_
  intro p e s m args below meth c s₁ B hml hv
  obtain ⟨rfl, hsz, hP, hK, hD0⟩ := hv
  have hx := B.exec
  have hb := B.bytes
  have hr := B.returns
  have hU : ∀ w ∈ wsL_law, w.before [.ref (a 11), .int (nI j)].toArray s = true := fun w h => atoms_spec (ws := Cond.code yX3_exchange cX3_exchange 5 none :: wsL_law) B.pre w (List.mem_cons_of_mem _ h)
  have hown : s.vm.findClass RX3 = some m.cls := findClass_of_methodNamed B.named
  have hlocks := B.notSynchronized
  have hF : CF p m c cX3_exchange 5 s [.ref (a 11), .int (nI j)].toArray RX3 := ⟨hx, hb, hml, hown, hU⟩
  subst hsz
  have hD := hD0.self (sz := s.heap.size)
  generalize hAe : va_A (xW k a S T dr tr C F G) s.heap.size = A at hD ⊢
  have hA : ∀ q : Nat, s.heap.size ≤ q → A q := fun q h => by rw [← hAe]; exact Or.inr h
  have hS : va_S A s.heap s.heap [] := va_S.rf
  have hl := lv_entry ([.ref (a 11), .int (nI j)] : List Value) (n := 5) (Nat.le_of_ble_eq_true rfl)
  rw [lg_entry_eq]
  generalize (lg_sl ([.ref (a 11), .int (nI j)] : List Value) ++ List.replicate (5 - (lg_sl ([.ref (a 11), .int (nI j)] : List Value)).length) Slot.unset).toArray = ls at hl ⊢
  have hl : lv_has ls 5 [(0, .ref (a 11)), (1, .int (nI j))] := hl
  refine lv_aload_n hx hb dX3_exchange_0 rfl (lv_at hl 0 rfl) ?_
  refine va_get (D := k.1) (ci := 3) (v := .int (T_cells T)) (C := RX3) (T := TX3) (N := 7) hx hb hU inlX3 hown hK.1 hP 11 rfl rfl 3 (by decide) (hU _ uF_X3_22) (fun _ h9 => h9) rfl dX3_exchange_1 ?_
  refine lv_iload_n hx hb dX3_exchange_4 rfl (lv_at hl 1 rfl) ?_
  refine rcSN (n := 2) (As := [.int (T_cells T), .int (nI j)]) (rest := []) hF (c_X4_hasBit l k (T_cells T) (nI j)) (hP.sub (ws' := []) [] rfl) hK uC_X4_hasBit uN_X4 nM_X3_39 uS_X4_hasBit (by decide +kernel) rfl ⟨Nat.le_of_ble_eq_true rfl, Nat.le_of_ble_eq_true rfl⟩ ⟨Nat.zero_le _, Nat.zero_le _⟩ hl.1 rfl (Nat.le_of_ble_eq_true rfl) dX3_exchange_5 ?_
  refine lv_if_eq (tgt := 15) hx hb dX3_exchange_8 (by decide) (fun c_1 => ?_) (fun c_1 => ?_)
  · refine lv_iconst (v := 1) hx hb dX3_exchange_15 (by decide) ?_
    refine W.eq (g2 := F0 m 16 ls [.int (sgI T j)]) (by rw [show sgI T j = 1 from (if_neg (by rw [(hb0 (T_cells T) (by omega)).mp c_1]; decide))]) ?_
    refine lv_istore_n (lv' := [(2, .int (sgI T j)), (0, .ref (a 11)), (1, .int (nI j))]) hx hb dX3_exchange_16 rfl hl (by decide) rfl (fun ls hl => ?_)
    refine lv_aload_n hx hb dX3_exchange_17 rfl (lv_at hl 1 rfl) ?_
    refine va_get (D := k.1) (ci := 3) (v := .int (T_cells T)) (C := RX3) (T := TX3) (N := 7) hx hb hU inlX3 hown hK.1 hP 11 rfl rfl 3 (by decide) (hU _ uF_X3_22) (fun _ h9 => h9) rfl dX3_exchange_18 ?_
    refine lv_iconst (v := 1) hx hb dX3_exchange_21 (by decide) ?_
    refine lv_iload_n hx hb dX3_exchange_22 rfl (lv_at hl 2 rfl) ?_
    refine lv_ishl hx hb dX3_exchange_23 ?_
    refine lv_iconst (v := (-1)) hx hb dX3_exchange_24 (by decide) ?_
    refine lv_ixor hx hb dX3_exchange_25 ?_
    refine lv_iand hx hb dX3_exchange_26 ?_
    refine W.eq (g2 := F0 m 27 ls [.int (othT T j)]) rfl ?_
    refine lv_istore_n (lv' := [(3, .int (othT T j)), (2, .int (sgI T j)), (0, .ref (a 11)), (1, .int (nI j))]) hx hb dX3_exchange_27 rfl hl (by decide) rfl (fun ls hl => ?_)
    refine lv_aload_n hx hb dX3_exchange_28 rfl (lv_at hl 2 rfl) ?_
    refine lv_dup hx hb dX3_exchange_29 rfl ?_
    refine va_get (D := k.1) (ci := 3) (v := .int (T_farPairs T)) (C := RX3) (T := TX3) (N := 7) hx hb hU inlX3 hown hK.1 hP 11 rfl rfl 4 (by decide) (hU _ uF_X3_26) (fun _ h9 => h9) rfl dX3_exchange_30 ?_
    refine lv_iload_n hx hb dX3_exchange_33 rfl (lv_at hl 1 rfl) ?_
    refine lv_aload_n hx hb dX3_exchange_34 rfl (lv_at hl 2 rfl) ?_
    refine va_get (D := k.1) (ci := 3) (v := .ref (a 1)) (C := RX3) (T := TX3) (N := 7) hx hb hU inlX3 hown hK.1 hP 11 rfl rfl 0 (by decide) (hU _ uF_X3_9) (fun _ h9 => h9) rfl dX3_exchange_35 ?_
    refine va_getN (D := k.1) (ci := 2) (v := .ref (a 6)) (C := RX2) (T := TX2) (N := 16) hx hb hU inlX2 hown hK.1 hP 1 rfl rfl 4 (by decide) (hK.nf nF_X3_47) (fun _ h9 => h9) rfl dX3_exchange_38 ?_
    refine lv_iload_n hx hb dX3_exchange_41 rfl (lv_at hl 3 rfl) ?_
    refine xa_iald hx hb hK.1 hP 6 0 rfl rfl (j := j) rfl hj (by decide) dX3_exchange_42 ?_
    refine lv_iload_n hx hb dX3_exchange_43 rfl (lv_at hl 0 rfl) ?_
    refine lv_iand hx hb dX3_exchange_44 ?_
    refine rcS (n := 1) (As := [.int (((S_tooFar S) j) &&& (othT T j))]) (rest := [.int (sgI T j), .int (T_farPairs T), .ref (a 11)]) hF (c_J6_bitCount_0f7a4 l k (((S_tooFar S) j) &&& (othT T j))) (hP.sub (ws' := []) [] rfl) hK uC_J6_bitCount_0f7a4 uN_J6 uM_X3_51 uS_J6_bitCount_0f7a4 (by decide +kernel) rfl ⟨Nat.le_of_ble_eq_true rfl, Nat.le_of_ble_eq_true rfl⟩ ⟨Nat.zero_le _, Nat.zero_le _⟩ hl.1 rfl (Nat.le_of_ble_eq_true rfl) dX3_exchange_45 ?_
    refine lv_imul hx hb dX3_exchange_48 ?_
    refine lv_iadd hx hb dX3_exchange_49 ?_
    refine va_put (D := k.1) (ci := 3) (v := .int ((T_farPairs T) + ((sgI T j) * (w_bitCount (((S_tooFar S) j) &&& (othT T j)))))) (ty := .int) (C := RX3) (T := TX3) (N := 7) hx hb hU inlX3 tyX3 tyX3_ok nmX3 hown hK.1 hP hD hS 11 rfl rfl 4 (by decide) (hU _ uF_X3_26) (fun _ h9 => h9) rfl (by decide +kernel) rfl rfl (Nat.le_of_ble_eq_true rfl) dX3_exchange_50 (fun H locs hP hD hS => ?_)
    have hP := pz_x_11_4 k a S T dr tr C F G ((T_farPairs T) + ((sgI T j) * (w_bitCount (((S_tooFar S) j) &&& (othT T j))))) hP
    have hD := dz_x_11_4 k a S T dr tr C F G ((T_farPairs T) + ((sgI T j) * (w_bitCount (((S_tooFar S) j) &&& (othT T j))))) hD
    refine lv_aload_n hx hb dX3_exchange_53 rfl (lv_at hl 2 rfl) ?_
    refine lv_dup hx hb dX3_exchange_54 rfl ?_
    refine va_get (D := k.1) (ci := 3) (v := .long (T_cellCosts T)) (C := RX3) (T := TX3) (N := 7) hx hb hU inlX3 hown hK.1 hP 11 rfl rfl 5 (by decide) (hU _ uF_X3_29) (fun _ h9 => h9) rfl dX3_exchange_55 ?_
    refine lv_iload_n hx hb dX3_exchange_58 rfl (lv_at hl 1 rfl) ?_
    refine lv_i2l (v := (Int32.toInt64 (sgI T j))) hx hb dX3_exchange_59 rfl ?_
    refine lv_aload_n hx hb dX3_exchange_60 rfl (lv_at hl 2 rfl) ?_
    refine va_get (D := k.1) (ci := 3) (v := .ref (a 1)) (C := RX3) (T := TX3) (N := 7) hx hb hU inlX3 hown hK.1 hP 11 rfl rfl 0 (by decide) (hU _ uF_X3_9) (fun _ h9 => h9) rfl dX3_exchange_61 ?_
    refine va_getN (D := k.1) (ci := 2) (v := .ref (a 2)) (C := RX2) (T := TX2) (N := 16) hx hb hU inlX2 hown hK.1 hP 1 rfl rfl 0 (by decide) (hK.nf nF_X3_57) (fun _ h9 => h9) rfl dX3_exchange_64 ?_
    refine lv_iload_n hx hb dX3_exchange_67 rfl (lv_at hl 3 rfl) ?_
    refine xa_lald hx hb hK.1 hP 2 1 rfl rfl (j := j) rfl hj (by decide) dX3_exchange_68 ?_
    refine lv_lmul hx hb dX3_exchange_69 ?_
    refine lv_ladd hx hb dX3_exchange_70 ?_
    refine va_put (D := k.1) (ci := 3) (v := .long ((T_cellCosts T) + ((Int32.toInt64 (sgI T j)) * ((S_costs S) j)))) (ty := .long) (C := RX3) (T := TX3) (N := 7) hx hb hU inlX3 tyX3 tyX3_ok nmX3 hown hK.1 hP hD hS 11 rfl rfl 5 (by decide) (hU _ uF_X3_29) (fun _ h9 => h9) rfl (by decide +kernel) rfl rfl (Nat.le_of_ble_eq_true rfl) dX3_exchange_71 (fun H locs hP hD hS => ?_)
    have hP := pz_x_11_5 k a S (sT_farPairs T ((T_farPairs T) + ((sgI T j) * (w_bitCount (((S_tooFar S) j) &&& (othT T j)))))) dr tr C F G ((T_cellCosts T) + ((Int32.toInt64 (sgI T j)) * ((S_costs S) j))) hP
    have hD := dz_x_11_5 k a S (sT_farPairs T ((T_farPairs T) + ((sgI T j) * (w_bitCount (((S_tooFar S) j) &&& (othT T j)))))) dr tr C F G ((T_cellCosts T) + ((Int32.toInt64 (sgI T j)) * ((S_costs S) j))) hD
    refine lv_aload_n hx hb dX3_exchange_74 rfl (lv_at hl 2 rfl) ?_
    refine lv_dup hx hb dX3_exchange_75 rfl ?_
    refine va_get (D := k.1) (ci := 3) (v := .long (T_borderLength T)) (C := RX3) (T := TX3) (N := 7) hx hb hU inlX3 hown hK.1 hP 11 rfl rfl 6 (by decide) (hU _ uF_X3_33) (fun _ h9 => h9) rfl dX3_exchange_76 ?_
    refine lv_iload_n hx hb dX3_exchange_79 rfl (lv_at hl 1 rfl) ?_
    refine lv_i2l (v := (Int32.toInt64 (sgI T j))) hx hb dX3_exchange_80 rfl ?_
    refine lv_aload_n hx hb dX3_exchange_81 rfl (lv_at hl 2 rfl) ?_
    refine lv_iload_n hx hb dX3_exchange_82 rfl (lv_at hl 3 rfl) ?_
    refine lv_iload_n hx hb dX3_exchange_83 rfl (lv_at hl 0 rfl) ?_
    refine rcV (n := 2) (As := [.int (nI j), .int (othT T j)]) (rest := [.long (Int32.toInt64 (sgI T j)), .long (T_borderLength T), .ref (a 11)]) hF (c_X3_borderGainedBy l k a S (sT_cellCosts (sT_farPairs T ((T_farPairs T) + ((sgI T j) * (w_bitCount (((S_tooFar S) j) &&& (othT T j)))))) ((T_cellCosts T) + ((Int32.toInt64 (sgI T j)) * ((S_costs S) j)))) dr tr C F G (nI j) (othT T j) n hn hc j hj rfl) (hP) hK 11 (ci := 3) rfl rfl rfl uC_X3_borderGainedBy uN_X3 uM_X3_60 uI_X3_borderGainedBy uE_X3_borderGainedBy (by decide +kernel) rfl ⟨Nat.le_of_ble_eq_true rfl, Nat.le_of_ble_eq_true rfl⟩ ⟨Nat.zero_le _, Nat.zero_le _⟩ hl.1 rfl (Nat.le_of_ble_eq_true rfl) dX3_exchange_84 ?_
    refine lv_lmul hx hb dX3_exchange_87 ?_
    refine lv_ladd hx hb dX3_exchange_88 ?_
    refine va_put (D := k.1) (ci := 3) (v := .long ((T_borderLength T) + ((Int32.toInt64 (sgI T j)) * (sm (f_bg S j (othT T j)) n)))) (ty := .long) (C := RX3) (T := TX3) (N := 7) hx hb hU inlX3 tyX3 tyX3_ok nmX3 hown hK.1 hP hD hS 11 rfl rfl 6 (by decide) (hU _ uF_X3_33) (fun _ h9 => h9) rfl (by decide +kernel) rfl rfl (Nat.le_of_ble_eq_true rfl) dX3_exchange_89 (fun H locs hP hD hS => ?_)
    have hP := pz_x_11_6 k a S (sT_cellCosts (sT_farPairs T ((T_farPairs T) + ((sgI T j) * (w_bitCount (((S_tooFar S) j) &&& (othT T j)))))) ((T_cellCosts T) + ((Int32.toInt64 (sgI T j)) * ((S_costs S) j)))) dr tr C F G ((T_borderLength T) + ((Int32.toInt64 (sgI T j)) * (sm (f_bg S j (othT T j)) n))) hP
    have hD := dz_x_11_6 k a S (sT_cellCosts (sT_farPairs T ((T_farPairs T) + ((sgI T j) * (w_bitCount (((S_tooFar S) j) &&& (othT T j)))))) ((T_cellCosts T) + ((Int32.toInt64 (sgI T j)) * ((S_costs S) j)))) dr tr C F G ((T_borderLength T) + ((Int32.toInt64 (sgI T j)) * (sm (f_bg S j (othT T j)) n))) hD
    have hP : va_P k.1 vwCl (xW k a S (ex1 S T n j) dr tr C F G) H := hP
    have hD : va_D A (xW k a S (ex1 S T n j) dr tr C F G) := hD
    refine lv_iconst (v := 0) hx hb dX3_exchange_92 (by decide) ?_
    refine lv_istore (lv' := [(4, .int 0), (3, .int (othT T j)), (2, .int (sgI T j)), (0, .ref (a 11)), (1, .int (nI j))]) hx hb dX3_exchange_93 hl (by decide) rfl (fun ls hl => ?_)
    have loop_i : ∀ (ri i : Nat), i + ri * 1 = 8 → ∀ (ls : Array Slot) (H : Heap) (locs : List Loc) , lv_has ls 5 [(4, .int (nI i)), (3, .int (othT T j)), (2, .int (sgI T j)), (0, .ref (a 11)), (1, .int (nI j))] → va_P k.1 vwCl (xW k a S (sT_amounts (ex1 S T n j) (exA S T j i)) dr tr C F G) H → va_D A (xW k a S (sT_amounts (ex1 S T n j) (exA S T j i)) dr tr C F G) → va_S A s.heap H locs → WW p l e s m below meth c yX3_exchange cX3_exchange 5 none (rz 2 48) [.ref (a 11), .int (nI j)] none k (xW k a S (ex_T S T n j) dr tr C F G) A H locs (F0 m 95 ls []) := by
      intro ri
      induction ri with
      | zero =>
        intro i hi_i ls H locs hl hP hD hS
        have he_i : 8 = i := by omega
        subst he_i
        refine lv_iload hx hb dX3_exchange_95 (lv_at hl 0 rfl) ?_
        refine lv_bipush (v := 8) hx hb dX3_exchange_97 (by decide) ?_
        refine xb_ge (tgt := 136) hx hb dX3_exchange_99 (by decide) (fun c_2 => ?_) (fun c9 => absurd c9 (nI_nlt (a := 8) (b := 8) (Nat.le_refl _) (by omega)))
        refine lv_iconst (v := 0) hx hb dX3_exchange_136 (by decide) ?_
        refine lv_istore (lv' := [(4, .int 0), (3, .int (othT T j)), (2, .int (sgI T j)), (0, .ref (a 11)), (1, .int (nI j))]) hx hb dX3_exchange_137 hl (by decide) rfl (fun ls hl => ?_)
        have loop_h : ∀ (rh h : Nat), h + rh * 1 = 4 → ∀ (ls : Array Slot) (H : Heap) (locs : List Loc) , lv_has ls 5 [(4, .int (nI h)), (3, .int (othT T j)), (2, .int (sgI T j)), (0, .ref (a 11)), (1, .int (nI j))] → va_P k.1 vwCl (xW k a S (sT_hours (sT_amounts (ex1 S T n j) (exA S T j 8)) (exH S T j h)) dr tr C F G) H → va_D A (xW k a S (sT_hours (sT_amounts (ex1 S T n j) (exA S T j 8)) (exH S T j h)) dr tr C F G) → va_S A s.heap H locs → WW p l e s m below meth c yX3_exchange cX3_exchange 5 none (rz 2 48) [.ref (a 11), .int (nI j)] none k (xW k a S (ex_T S T n j) dr tr C F G) A H locs (F0 m 139 ls []) := by
          intro rh
          induction rh with
          | zero =>
            intro h hi_h ls H locs hl hP hD hS
            have he_h : 4 = h := by omega
            subst he_h
            refine lv_iload hx hb dX3_exchange_139 (lv_at hl 0 rfl) ?_
            refine lv_iconst (v := 4) hx hb dX3_exchange_141 (by decide) ?_
            refine xb_ge (tgt := 178) hx hb dX3_exchange_142 (by decide) (fun c_3 => ?_) (fun c9 => absurd c9 (nI_nlt (a := 4) (b := 4) (Nat.le_refl _) (by omega)))
            refine lv_aload_n hx hb dX3_exchange_178 rfl (lv_at hl 3 rfl) ?_
            refine lv_dup hx hb dX3_exchange_179 rfl ?_
            refine va_get (D := k.1) (ci := 3) (v := .int (T_cells (sT_hours (sT_amounts (ex1 S T n j) (exA S T j 8)) (exH S T j 4)))) (C := RX3) (T := TX3) (N := 7) hx hb hU inlX3 hown hK.1 hP 11 rfl rfl 3 (by decide) (hU _ uF_X3_22) (fun _ h9 => h9) rfl dX3_exchange_180 ?_
            refine lv_iconst (v := 1) hx hb dX3_exchange_183 (by decide) ?_
            refine lv_iload_n hx hb dX3_exchange_184 rfl (lv_at hl 4 rfl) ?_
            refine lv_ishl hx hb dX3_exchange_185 ?_
            refine lv_ixor hx hb dX3_exchange_186 ?_
            refine va_put (D := k.1) (ci := 3) (v := .int ((T_cells (sT_hours (sT_amounts (ex1 S T n j) (exA S T j 8)) (exH S T j 4))) ^^^ (1 <<< ((nI j) &&& 31)))) (ty := .int) (C := RX3) (T := TX3) (N := 7) hx hb hU inlX3 tyX3 tyX3_ok nmX3 hown hK.1 hP hD hS 11 rfl rfl 3 (by decide) (hU _ uF_X3_22) (fun _ h9 => h9) rfl (by decide +kernel) rfl rfl (Nat.le_of_ble_eq_true rfl) dX3_exchange_187 (fun H locs hP hD hS => ?_)
            have hP := pz_x_11_3 k a S (sT_hours (sT_amounts (ex1 S T n j) (exA S T j 8)) (exH S T j 4)) dr tr C F G ((T_cells (sT_hours (sT_amounts (ex1 S T n j) (exA S T j 8)) (exH S T j 4))) ^^^ (1 <<< ((nI j) &&& 31))) hP
            have hD := dz_x_11_3 k a S (sT_hours (sT_amounts (ex1 S T n j) (exA S T j 8)) (exH S T j 4)) dr tr C F G ((T_cells (sT_hours (sT_amounts (ex1 S T n j) (exA S T j 8)) (exH S T j 4))) ^^^ (1 <<< ((nI j) &&& 31))) hD
            have hP9 : va_P k.1 vwCl (xW k a S (ex_T S T n j) dr tr C F G) H := hP
            have hD9 : va_D A (xW k a S (ex_T S T n j) dr tr C F G) := hD
            exact W.vret hx hb hr (fun t ht hW => ⟨⟨rfl, by rw [ht]; exact hP9, hD9⟩, hS.F ht⟩) hS.2.2 dX3_exchange_190
          | succ rh ih_h =>
            intro h hi_h ls H locs hl hP hD hS
            have ht_h : h < 4 := by omega
            refine lv_iload hx hb dX3_exchange_139 (lv_at hl 0 rfl) ?_
            refine lv_iconst (v := 4) hx hb dX3_exchange_141 (by decide) ?_
            refine xb_ge (tgt := 178) hx hb dX3_exchange_142 (by decide) (fun c9 => absurd (nI_lt (a := h) (b := 4) (by omega) (by omega)) c9) (fun c_4 => ?_)
            refine lv_aload_n hx hb dX3_exchange_145 rfl (lv_at hl 3 rfl) ?_
            refine va_get (D := k.1) (ci := 3) (v := .ref (a 13)) (C := RX3) (T := TX3) (N := 7) hx hb hU inlX3 hown hK.1 hP 11 rfl rfl 2 (by decide) (hU _ uF_X3_19) (fun _ h9 => h9) rfl dX3_exchange_146 ?_
            refine lv_iload hx hb dX3_exchange_149 (lv_at hl 0 rfl) ?_
            refine lv_dup2_11 hx hb dX3_exchange_151 rfl rfl ?_
            refine xa_lald hx hb hK.1 hP 13 1 rfl rfl (j := h) rfl (by omega) (by decide) dX3_exchange_152 ?_
            refine lv_iload_n hx hb dX3_exchange_153 rfl (lv_at hl 2 rfl) ?_
            refine lv_i2l (v := (Int32.toInt64 (sgI T j))) hx hb dX3_exchange_154 rfl ?_
            refine lv_aload_n hx hb dX3_exchange_155 rfl (lv_at hl 3 rfl) ?_
            refine va_get (D := k.1) (ci := 3) (v := .ref (a 1)) (C := RX3) (T := TX3) (N := 7) hx hb hU inlX3 hown hK.1 hP 11 rfl rfl 0 (by decide) (hU _ uF_X3_9) (fun _ h9 => h9) rfl dX3_exchange_156 ?_
            refine va_getN (D := k.1) (ci := 2) (v := .ref (a 4)) (C := RX2) (T := TX2) (N := 16) hx hb hU inlX2 hown hK.1 hP 1 rfl rfl 2 (by decide) (hK.nf nF_X3_65) (fun _ h9 => h9) rfl dX3_exchange_159 ?_
            refine lv_iload_n hx hb dX3_exchange_162 rfl (lv_at hl 4 rfl) ?_
            refine lv_iconst (v := 4) hx hb dX3_exchange_163 (by decide) ?_
            refine lv_imul hx hb dX3_exchange_164 ?_
            refine lv_iload hx hb dX3_exchange_165 (lv_at hl 0 rfl) ?_
            refine lv_iadd hx hb dX3_exchange_167 ?_
            refine xa_lald hx hb hK.1 hP 4 1 rfl rfl (j := j * 4 + h) (ix4 j h) (by omega) (by decide) dX3_exchange_168 ?_
            refine lv_lmul hx hb dX3_exchange_169 ?_
            refine lv_ladd hx hb dX3_exchange_170 ?_
            refine xa_last hx hb hK.1 hP hD hS 13 1 rfl rfl (j := h) rfl (by omega) (by decide) dX3_exchange_171 (fun H locs hP hD hS => ?_)
            have hP := pz_x_13 k a S (sT_hours (sT_amounts (ex1 S T n j) (exA S T j 8)) (exH S T j h)) dr tr C F G (vp_updL (T_hours (sT_hours (sT_amounts (ex1 S T n j) (exA S T j 8)) (exH S T j h))) h (((T_hours (sT_hours (sT_amounts (ex1 S T n j) (exA S T j 8)) (exH S T j h))) h) + ((Int32.toInt64 (sgI T j)) * ((S_hours S) (j * 4 + h))))) hP
            have hD := dz_x_13 k a S (sT_hours (sT_amounts (ex1 S T n j) (exA S T j 8)) (exH S T j h)) dr tr C F G (vp_updL (T_hours (sT_hours (sT_amounts (ex1 S T n j) (exA S T j 8)) (exH S T j h))) h (((T_hours (sT_hours (sT_amounts (ex1 S T n j) (exA S T j 8)) (exH S T j h))) h) + ((Int32.toInt64 (sgI T j)) * ((S_hours S) (j * 4 + h))))) hD
            refine lv_iinc (v := nI (h + 1)) (lv' := [(4, .int (nI (h + 1))), (3, .int (othT T j)), (2, .int (sgI T j)), (0, .ref (a 11)), (1, .int (nI j))]) hx hb dX3_exchange_172 hl (k := 0) rfl (nI_add h 1) (by decide) rfl (fun ls hl => ?_)
            refine lv_goto (tgt := 139) hx hb dX3_exchange_175 (by decide) ?_
            exact ih_h (h + 1) (by omega) ls _ _ (lv_sub hl [0, 1, 2, 3, 4] rfl) hP hD hS
        exact loop_h 4 0 (by omega) ls _ _ (lv_sub hl [0, 1, 2, 3, 4] rfl) hP hD hS
      | succ ri ih_i =>
        intro i hi_i ls H locs hl hP hD hS
        have ht_i : i < 8 := by omega
        refine lv_iload hx hb dX3_exchange_95 (lv_at hl 0 rfl) ?_
        refine lv_bipush (v := 8) hx hb dX3_exchange_97 (by decide) ?_
        refine xb_ge (tgt := 136) hx hb dX3_exchange_99 (by decide) (fun c9 => absurd (nI_lt (a := i) (b := 8) (by omega) (by omega)) c9) (fun c_5 => ?_)
        refine lv_aload_n hx hb dX3_exchange_102 rfl (lv_at hl 3 rfl) ?_
        refine va_get (D := k.1) (ci := 3) (v := .ref (a 12)) (C := RX3) (T := TX3) (N := 7) hx hb hU inlX3 hown hK.1 hP 11 rfl rfl 1 (by decide) (hU _ uF_X3_15) (fun _ h9 => h9) rfl dX3_exchange_103 ?_
        refine lv_iload hx hb dX3_exchange_106 (lv_at hl 0 rfl) ?_
        refine lv_dup2_11 hx hb dX3_exchange_108 rfl rfl ?_
        refine xa_lald hx hb hK.1 hP 12 1 rfl rfl (j := i) rfl (by omega) (by decide) dX3_exchange_109 ?_
        refine lv_iload_n hx hb dX3_exchange_110 rfl (lv_at hl 2 rfl) ?_
        refine lv_i2l (v := (Int32.toInt64 (sgI T j))) hx hb dX3_exchange_111 rfl ?_
        refine lv_aload_n hx hb dX3_exchange_112 rfl (lv_at hl 3 rfl) ?_
        refine va_get (D := k.1) (ci := 3) (v := .ref (a 1)) (C := RX3) (T := TX3) (N := 7) hx hb hU inlX3 hown hK.1 hP 11 rfl rfl 0 (by decide) (hU _ uF_X3_9) (fun _ h9 => h9) rfl dX3_exchange_113 ?_
        refine va_getN (D := k.1) (ci := 2) (v := .ref (a 3)) (C := RX2) (T := TX2) (N := 16) hx hb hU inlX2 hown hK.1 hP 1 rfl rfl 1 (by decide) (hK.nf nF_X3_64) (fun _ h9 => h9) rfl dX3_exchange_116 ?_
        refine lv_iload_n hx hb dX3_exchange_119 rfl (lv_at hl 4 rfl) ?_
        refine lv_bipush (v := 8) hx hb dX3_exchange_120 (by decide) ?_
        refine lv_imul hx hb dX3_exchange_122 ?_
        refine lv_iload hx hb dX3_exchange_123 (lv_at hl 0 rfl) ?_
        refine lv_iadd hx hb dX3_exchange_125 ?_
        refine xa_lald hx hb hK.1 hP 3 1 rfl rfl (j := j * 8 + i) (ix8 j i) (by omega) (by decide) dX3_exchange_126 ?_
        refine lv_lmul hx hb dX3_exchange_127 ?_
        refine lv_ladd hx hb dX3_exchange_128 ?_
        refine xa_last hx hb hK.1 hP hD hS 12 1 rfl rfl (j := i) rfl (by omega) (by decide) dX3_exchange_129 (fun H locs hP hD hS => ?_)
        have hP := pz_x_12 k a S (sT_amounts (ex1 S T n j) (exA S T j i)) dr tr C F G (vp_updL (T_amounts (sT_amounts (ex1 S T n j) (exA S T j i))) i (((T_amounts (sT_amounts (ex1 S T n j) (exA S T j i))) i) + ((Int32.toInt64 (sgI T j)) * ((S_amounts S) (j * 8 + i))))) hP
        have hD := dz_x_12 k a S (sT_amounts (ex1 S T n j) (exA S T j i)) dr tr C F G (vp_updL (T_amounts (sT_amounts (ex1 S T n j) (exA S T j i))) i (((T_amounts (sT_amounts (ex1 S T n j) (exA S T j i))) i) + ((Int32.toInt64 (sgI T j)) * ((S_amounts S) (j * 8 + i))))) hD
        refine lv_iinc (v := nI (i + 1)) (lv' := [(4, .int (nI (i + 1))), (3, .int (othT T j)), (2, .int (sgI T j)), (0, .ref (a 11)), (1, .int (nI j))]) hx hb dX3_exchange_130 hl (k := 0) rfl (nI_add i 1) (by decide) rfl (fun ls hl => ?_)
        refine lv_goto (tgt := 95) hx hb dX3_exchange_133 (by decide) ?_
        exact ih_i (i + 1) (by omega) ls _ _ (lv_sub hl [0, 1, 2, 3, 4] rfl) hP hD hS
    exact loop_i 8 0 (by omega) ls _ _ (lv_sub hl [0, 1, 2, 3, 4] rfl) hP hD hS
  · refine lv_iconst (v := (-1)) hx hb dX3_exchange_11 (by decide) ?_
    refine lv_goto (tgt := 16) hx hb dX3_exchange_12 (by decide) ?_
    refine W.eq (g2 := F0 m 16 ls [.int (sgI T j)]) (by rw [show sgI T j = (-1) from (if_pos ((hb1 (T_cells T) (by omega)).mp c_1))]) ?_
    refine lv_istore_n (lv' := [(2, .int (sgI T j)), (0, .ref (a 11)), (1, .int (nI j))]) hx hb dX3_exchange_16 rfl hl (by decide) rfl (fun ls hl => ?_)
    refine lv_aload_n hx hb dX3_exchange_17 rfl (lv_at hl 1 rfl) ?_
    refine va_get (D := k.1) (ci := 3) (v := .int (T_cells T)) (C := RX3) (T := TX3) (N := 7) hx hb hU inlX3 hown hK.1 hP 11 rfl rfl 3 (by decide) (hU _ uF_X3_22) (fun _ h9 => h9) rfl dX3_exchange_18 ?_
    refine lv_iconst (v := 1) hx hb dX3_exchange_21 (by decide) ?_
    refine lv_iload_n hx hb dX3_exchange_22 rfl (lv_at hl 2 rfl) ?_
    refine lv_ishl hx hb dX3_exchange_23 ?_
    refine lv_iconst (v := (-1)) hx hb dX3_exchange_24 (by decide) ?_
    refine lv_ixor hx hb dX3_exchange_25 ?_
    refine lv_iand hx hb dX3_exchange_26 ?_
    refine W.eq (g2 := F0 m 27 ls [.int (othT T j)]) rfl ?_
    refine lv_istore_n (lv' := [(3, .int (othT T j)), (2, .int (sgI T j)), (0, .ref (a 11)), (1, .int (nI j))]) hx hb dX3_exchange_27 rfl hl (by decide) rfl (fun ls hl => ?_)
    refine lv_aload_n hx hb dX3_exchange_28 rfl (lv_at hl 2 rfl) ?_
    refine lv_dup hx hb dX3_exchange_29 rfl ?_
    refine va_get (D := k.1) (ci := 3) (v := .int (T_farPairs T)) (C := RX3) (T := TX3) (N := 7) hx hb hU inlX3 hown hK.1 hP 11 rfl rfl 4 (by decide) (hU _ uF_X3_26) (fun _ h9 => h9) rfl dX3_exchange_30 ?_
    refine lv_iload_n hx hb dX3_exchange_33 rfl (lv_at hl 1 rfl) ?_
    refine lv_aload_n hx hb dX3_exchange_34 rfl (lv_at hl 2 rfl) ?_
    refine va_get (D := k.1) (ci := 3) (v := .ref (a 1)) (C := RX3) (T := TX3) (N := 7) hx hb hU inlX3 hown hK.1 hP 11 rfl rfl 0 (by decide) (hU _ uF_X3_9) (fun _ h9 => h9) rfl dX3_exchange_35 ?_
    refine va_getN (D := k.1) (ci := 2) (v := .ref (a 6)) (C := RX2) (T := TX2) (N := 16) hx hb hU inlX2 hown hK.1 hP 1 rfl rfl 4 (by decide) (hK.nf nF_X3_47) (fun _ h9 => h9) rfl dX3_exchange_38 ?_
    refine lv_iload_n hx hb dX3_exchange_41 rfl (lv_at hl 3 rfl) ?_
    refine xa_iald hx hb hK.1 hP 6 0 rfl rfl (j := j) rfl hj (by decide) dX3_exchange_42 ?_
    refine lv_iload_n hx hb dX3_exchange_43 rfl (lv_at hl 0 rfl) ?_
    refine lv_iand hx hb dX3_exchange_44 ?_
    refine rcS (n := 1) (As := [.int (((S_tooFar S) j) &&& (othT T j))]) (rest := [.int (sgI T j), .int (T_farPairs T), .ref (a 11)]) hF (c_J6_bitCount_0f7a4 l k (((S_tooFar S) j) &&& (othT T j))) (hP.sub (ws' := []) [] rfl) hK uC_J6_bitCount_0f7a4 uN_J6 uM_X3_51 uS_J6_bitCount_0f7a4 (by decide +kernel) rfl ⟨Nat.le_of_ble_eq_true rfl, Nat.le_of_ble_eq_true rfl⟩ ⟨Nat.zero_le _, Nat.zero_le _⟩ hl.1 rfl (Nat.le_of_ble_eq_true rfl) dX3_exchange_45 ?_
    refine lv_imul hx hb dX3_exchange_48 ?_
    refine lv_iadd hx hb dX3_exchange_49 ?_
    refine va_put (D := k.1) (ci := 3) (v := .int ((T_farPairs T) + ((sgI T j) * (w_bitCount (((S_tooFar S) j) &&& (othT T j)))))) (ty := .int) (C := RX3) (T := TX3) (N := 7) hx hb hU inlX3 tyX3 tyX3_ok nmX3 hown hK.1 hP hD hS 11 rfl rfl 4 (by decide) (hU _ uF_X3_26) (fun _ h9 => h9) rfl (by decide +kernel) rfl rfl (Nat.le_of_ble_eq_true rfl) dX3_exchange_50 (fun H locs hP hD hS => ?_)
    have hP := pz_x_11_4 k a S T dr tr C F G ((T_farPairs T) + ((sgI T j) * (w_bitCount (((S_tooFar S) j) &&& (othT T j))))) hP
    have hD := dz_x_11_4 k a S T dr tr C F G ((T_farPairs T) + ((sgI T j) * (w_bitCount (((S_tooFar S) j) &&& (othT T j))))) hD
    refine lv_aload_n hx hb dX3_exchange_53 rfl (lv_at hl 2 rfl) ?_
    refine lv_dup hx hb dX3_exchange_54 rfl ?_
    refine va_get (D := k.1) (ci := 3) (v := .long (T_cellCosts T)) (C := RX3) (T := TX3) (N := 7) hx hb hU inlX3 hown hK.1 hP 11 rfl rfl 5 (by decide) (hU _ uF_X3_29) (fun _ h9 => h9) rfl dX3_exchange_55 ?_
    refine lv_iload_n hx hb dX3_exchange_58 rfl (lv_at hl 1 rfl) ?_
    refine lv_i2l (v := (Int32.toInt64 (sgI T j))) hx hb dX3_exchange_59 rfl ?_
    refine lv_aload_n hx hb dX3_exchange_60 rfl (lv_at hl 2 rfl) ?_
    refine va_get (D := k.1) (ci := 3) (v := .ref (a 1)) (C := RX3) (T := TX3) (N := 7) hx hb hU inlX3 hown hK.1 hP 11 rfl rfl 0 (by decide) (hU _ uF_X3_9) (fun _ h9 => h9) rfl dX3_exchange_61 ?_
    refine va_getN (D := k.1) (ci := 2) (v := .ref (a 2)) (C := RX2) (T := TX2) (N := 16) hx hb hU inlX2 hown hK.1 hP 1 rfl rfl 0 (by decide) (hK.nf nF_X3_57) (fun _ h9 => h9) rfl dX3_exchange_64 ?_
    refine lv_iload_n hx hb dX3_exchange_67 rfl (lv_at hl 3 rfl) ?_
    refine xa_lald hx hb hK.1 hP 2 1 rfl rfl (j := j) rfl hj (by decide) dX3_exchange_68 ?_
    refine lv_lmul hx hb dX3_exchange_69 ?_
    refine lv_ladd hx hb dX3_exchange_70 ?_
    refine va_put (D := k.1) (ci := 3) (v := .long ((T_cellCosts T) + ((Int32.toInt64 (sgI T j)) * ((S_costs S) j)))) (ty := .long) (C := RX3) (T := TX3) (N := 7) hx hb hU inlX3 tyX3 tyX3_ok nmX3 hown hK.1 hP hD hS 11 rfl rfl 5 (by decide) (hU _ uF_X3_29) (fun _ h9 => h9) rfl (by decide +kernel) rfl rfl (Nat.le_of_ble_eq_true rfl) dX3_exchange_71 (fun H locs hP hD hS => ?_)
    have hP := pz_x_11_5 k a S (sT_farPairs T ((T_farPairs T) + ((sgI T j) * (w_bitCount (((S_tooFar S) j) &&& (othT T j)))))) dr tr C F G ((T_cellCosts T) + ((Int32.toInt64 (sgI T j)) * ((S_costs S) j))) hP
    have hD := dz_x_11_5 k a S (sT_farPairs T ((T_farPairs T) + ((sgI T j) * (w_bitCount (((S_tooFar S) j) &&& (othT T j)))))) dr tr C F G ((T_cellCosts T) + ((Int32.toInt64 (sgI T j)) * ((S_costs S) j))) hD
    refine lv_aload_n hx hb dX3_exchange_74 rfl (lv_at hl 2 rfl) ?_
    refine lv_dup hx hb dX3_exchange_75 rfl ?_
    refine va_get (D := k.1) (ci := 3) (v := .long (T_borderLength T)) (C := RX3) (T := TX3) (N := 7) hx hb hU inlX3 hown hK.1 hP 11 rfl rfl 6 (by decide) (hU _ uF_X3_33) (fun _ h9 => h9) rfl dX3_exchange_76 ?_
    refine lv_iload_n hx hb dX3_exchange_79 rfl (lv_at hl 1 rfl) ?_
    refine lv_i2l (v := (Int32.toInt64 (sgI T j))) hx hb dX3_exchange_80 rfl ?_
    refine lv_aload_n hx hb dX3_exchange_81 rfl (lv_at hl 2 rfl) ?_
    refine lv_iload_n hx hb dX3_exchange_82 rfl (lv_at hl 3 rfl) ?_
    refine lv_iload_n hx hb dX3_exchange_83 rfl (lv_at hl 0 rfl) ?_
    refine rcV (n := 2) (As := [.int (nI j), .int (othT T j)]) (rest := [.long (Int32.toInt64 (sgI T j)), .long (T_borderLength T), .ref (a 11)]) hF (c_X3_borderGainedBy l k a S (sT_cellCosts (sT_farPairs T ((T_farPairs T) + ((sgI T j) * (w_bitCount (((S_tooFar S) j) &&& (othT T j)))))) ((T_cellCosts T) + ((Int32.toInt64 (sgI T j)) * ((S_costs S) j)))) dr tr C F G (nI j) (othT T j) n hn hc j hj rfl) (hP) hK 11 (ci := 3) rfl rfl rfl uC_X3_borderGainedBy uN_X3 uM_X3_60 uI_X3_borderGainedBy uE_X3_borderGainedBy (by decide +kernel) rfl ⟨Nat.le_of_ble_eq_true rfl, Nat.le_of_ble_eq_true rfl⟩ ⟨Nat.zero_le _, Nat.zero_le _⟩ hl.1 rfl (Nat.le_of_ble_eq_true rfl) dX3_exchange_84 ?_
    refine lv_lmul hx hb dX3_exchange_87 ?_
    refine lv_ladd hx hb dX3_exchange_88 ?_
    refine va_put (D := k.1) (ci := 3) (v := .long ((T_borderLength T) + ((Int32.toInt64 (sgI T j)) * (sm (f_bg S j (othT T j)) n)))) (ty := .long) (C := RX3) (T := TX3) (N := 7) hx hb hU inlX3 tyX3 tyX3_ok nmX3 hown hK.1 hP hD hS 11 rfl rfl 6 (by decide) (hU _ uF_X3_33) (fun _ h9 => h9) rfl (by decide +kernel) rfl rfl (Nat.le_of_ble_eq_true rfl) dX3_exchange_89 (fun H locs hP hD hS => ?_)
    have hP := pz_x_11_6 k a S (sT_cellCosts (sT_farPairs T ((T_farPairs T) + ((sgI T j) * (w_bitCount (((S_tooFar S) j) &&& (othT T j)))))) ((T_cellCosts T) + ((Int32.toInt64 (sgI T j)) * ((S_costs S) j)))) dr tr C F G ((T_borderLength T) + ((Int32.toInt64 (sgI T j)) * (sm (f_bg S j (othT T j)) n))) hP
    have hD := dz_x_11_6 k a S (sT_cellCosts (sT_farPairs T ((T_farPairs T) + ((sgI T j) * (w_bitCount (((S_tooFar S) j) &&& (othT T j)))))) ((T_cellCosts T) + ((Int32.toInt64 (sgI T j)) * ((S_costs S) j)))) dr tr C F G ((T_borderLength T) + ((Int32.toInt64 (sgI T j)) * (sm (f_bg S j (othT T j)) n))) hD
    have hP : va_P k.1 vwCl (xW k a S (ex1 S T n j) dr tr C F G) H := hP
    have hD : va_D A (xW k a S (ex1 S T n j) dr tr C F G) := hD
    refine lv_iconst (v := 0) hx hb dX3_exchange_92 (by decide) ?_
    refine lv_istore (lv' := [(4, .int 0), (3, .int (othT T j)), (2, .int (sgI T j)), (0, .ref (a 11)), (1, .int (nI j))]) hx hb dX3_exchange_93 hl (by decide) rfl (fun ls hl => ?_)
    have loop_i : ∀ (ri i : Nat), i + ri * 1 = 8 → ∀ (ls : Array Slot) (H : Heap) (locs : List Loc) , lv_has ls 5 [(4, .int (nI i)), (3, .int (othT T j)), (2, .int (sgI T j)), (0, .ref (a 11)), (1, .int (nI j))] → va_P k.1 vwCl (xW k a S (sT_amounts (ex1 S T n j) (exA S T j i)) dr tr C F G) H → va_D A (xW k a S (sT_amounts (ex1 S T n j) (exA S T j i)) dr tr C F G) → va_S A s.heap H locs → WW p l e s m below meth c yX3_exchange cX3_exchange 5 none (rz 2 48) [.ref (a 11), .int (nI j)] none k (xW k a S (ex_T S T n j) dr tr C F G) A H locs (F0 m 95 ls []) := by
      intro ri
      induction ri with
      | zero =>
        intro i hi_i ls H locs hl hP hD hS
        have he_i : 8 = i := by omega
        subst he_i
        refine lv_iload hx hb dX3_exchange_95 (lv_at hl 0 rfl) ?_
        refine lv_bipush (v := 8) hx hb dX3_exchange_97 (by decide) ?_
        refine xb_ge (tgt := 136) hx hb dX3_exchange_99 (by decide) (fun c_6 => ?_) (fun c9 => absurd c9 (nI_nlt (a := 8) (b := 8) (Nat.le_refl _) (by omega)))
        refine lv_iconst (v := 0) hx hb dX3_exchange_136 (by decide) ?_
        refine lv_istore (lv' := [(4, .int 0), (3, .int (othT T j)), (2, .int (sgI T j)), (0, .ref (a 11)), (1, .int (nI j))]) hx hb dX3_exchange_137 hl (by decide) rfl (fun ls hl => ?_)
        have loop_h : ∀ (rh h : Nat), h + rh * 1 = 4 → ∀ (ls : Array Slot) (H : Heap) (locs : List Loc) , lv_has ls 5 [(4, .int (nI h)), (3, .int (othT T j)), (2, .int (sgI T j)), (0, .ref (a 11)), (1, .int (nI j))] → va_P k.1 vwCl (xW k a S (sT_hours (sT_amounts (ex1 S T n j) (exA S T j 8)) (exH S T j h)) dr tr C F G) H → va_D A (xW k a S (sT_hours (sT_amounts (ex1 S T n j) (exA S T j 8)) (exH S T j h)) dr tr C F G) → va_S A s.heap H locs → WW p l e s m below meth c yX3_exchange cX3_exchange 5 none (rz 2 48) [.ref (a 11), .int (nI j)] none k (xW k a S (ex_T S T n j) dr tr C F G) A H locs (F0 m 139 ls []) := by
          intro rh
          induction rh with
          | zero =>
            intro h hi_h ls H locs hl hP hD hS
            have he_h : 4 = h := by omega
            subst he_h
            refine lv_iload hx hb dX3_exchange_139 (lv_at hl 0 rfl) ?_
            refine lv_iconst (v := 4) hx hb dX3_exchange_141 (by decide) ?_
            refine xb_ge (tgt := 178) hx hb dX3_exchange_142 (by decide) (fun c_7 => ?_) (fun c9 => absurd c9 (nI_nlt (a := 4) (b := 4) (Nat.le_refl _) (by omega)))
            refine lv_aload_n hx hb dX3_exchange_178 rfl (lv_at hl 3 rfl) ?_
            refine lv_dup hx hb dX3_exchange_179 rfl ?_
            refine va_get (D := k.1) (ci := 3) (v := .int (T_cells (sT_hours (sT_amounts (ex1 S T n j) (exA S T j 8)) (exH S T j 4)))) (C := RX3) (T := TX3) (N := 7) hx hb hU inlX3 hown hK.1 hP 11 rfl rfl 3 (by decide) (hU _ uF_X3_22) (fun _ h9 => h9) rfl dX3_exchange_180 ?_
            refine lv_iconst (v := 1) hx hb dX3_exchange_183 (by decide) ?_
            refine lv_iload_n hx hb dX3_exchange_184 rfl (lv_at hl 4 rfl) ?_
            refine lv_ishl hx hb dX3_exchange_185 ?_
            refine lv_ixor hx hb dX3_exchange_186 ?_
            refine va_put (D := k.1) (ci := 3) (v := .int ((T_cells (sT_hours (sT_amounts (ex1 S T n j) (exA S T j 8)) (exH S T j 4))) ^^^ (1 <<< ((nI j) &&& 31)))) (ty := .int) (C := RX3) (T := TX3) (N := 7) hx hb hU inlX3 tyX3 tyX3_ok nmX3 hown hK.1 hP hD hS 11 rfl rfl 3 (by decide) (hU _ uF_X3_22) (fun _ h9 => h9) rfl (by decide +kernel) rfl rfl (Nat.le_of_ble_eq_true rfl) dX3_exchange_187 (fun H locs hP hD hS => ?_)
            have hP := pz_x_11_3 k a S (sT_hours (sT_amounts (ex1 S T n j) (exA S T j 8)) (exH S T j 4)) dr tr C F G ((T_cells (sT_hours (sT_amounts (ex1 S T n j) (exA S T j 8)) (exH S T j 4))) ^^^ (1 <<< ((nI j) &&& 31))) hP
            have hD := dz_x_11_3 k a S (sT_hours (sT_amounts (ex1 S T n j) (exA S T j 8)) (exH S T j 4)) dr tr C F G ((T_cells (sT_hours (sT_amounts (ex1 S T n j) (exA S T j 8)) (exH S T j 4))) ^^^ (1 <<< ((nI j) &&& 31))) hD
            have hP9 : va_P k.1 vwCl (xW k a S (ex_T S T n j) dr tr C F G) H := hP
            have hD9 : va_D A (xW k a S (ex_T S T n j) dr tr C F G) := hD
            exact W.vret hx hb hr (fun t ht hW => ⟨⟨rfl, by rw [ht]; exact hP9, hD9⟩, hS.F ht⟩) hS.2.2 dX3_exchange_190
          | succ rh ih_h =>
            intro h hi_h ls H locs hl hP hD hS
            have ht_h : h < 4 := by omega
            refine lv_iload hx hb dX3_exchange_139 (lv_at hl 0 rfl) ?_
            refine lv_iconst (v := 4) hx hb dX3_exchange_141 (by decide) ?_
            refine xb_ge (tgt := 178) hx hb dX3_exchange_142 (by decide) (fun c9 => absurd (nI_lt (a := h) (b := 4) (by omega) (by omega)) c9) (fun c_8 => ?_)
            refine lv_aload_n hx hb dX3_exchange_145 rfl (lv_at hl 3 rfl) ?_
            refine va_get (D := k.1) (ci := 3) (v := .ref (a 13)) (C := RX3) (T := TX3) (N := 7) hx hb hU inlX3 hown hK.1 hP 11 rfl rfl 2 (by decide) (hU _ uF_X3_19) (fun _ h9 => h9) rfl dX3_exchange_146 ?_
            refine lv_iload hx hb dX3_exchange_149 (lv_at hl 0 rfl) ?_
            refine lv_dup2_11 hx hb dX3_exchange_151 rfl rfl ?_
            refine xa_lald hx hb hK.1 hP 13 1 rfl rfl (j := h) rfl (by omega) (by decide) dX3_exchange_152 ?_
            refine lv_iload_n hx hb dX3_exchange_153 rfl (lv_at hl 2 rfl) ?_
            refine lv_i2l (v := (Int32.toInt64 (sgI T j))) hx hb dX3_exchange_154 rfl ?_
            refine lv_aload_n hx hb dX3_exchange_155 rfl (lv_at hl 3 rfl) ?_
            refine va_get (D := k.1) (ci := 3) (v := .ref (a 1)) (C := RX3) (T := TX3) (N := 7) hx hb hU inlX3 hown hK.1 hP 11 rfl rfl 0 (by decide) (hU _ uF_X3_9) (fun _ h9 => h9) rfl dX3_exchange_156 ?_
            refine va_getN (D := k.1) (ci := 2) (v := .ref (a 4)) (C := RX2) (T := TX2) (N := 16) hx hb hU inlX2 hown hK.1 hP 1 rfl rfl 2 (by decide) (hK.nf nF_X3_65) (fun _ h9 => h9) rfl dX3_exchange_159 ?_
            refine lv_iload_n hx hb dX3_exchange_162 rfl (lv_at hl 4 rfl) ?_
            refine lv_iconst (v := 4) hx hb dX3_exchange_163 (by decide) ?_
            refine lv_imul hx hb dX3_exchange_164 ?_
            refine lv_iload hx hb dX3_exchange_165 (lv_at hl 0 rfl) ?_
            refine lv_iadd hx hb dX3_exchange_167 ?_
            refine xa_lald hx hb hK.1 hP 4 1 rfl rfl (j := j * 4 + h) (ix4 j h) (by omega) (by decide) dX3_exchange_168 ?_
            refine lv_lmul hx hb dX3_exchange_169 ?_
            refine lv_ladd hx hb dX3_exchange_170 ?_
            refine xa_last hx hb hK.1 hP hD hS 13 1 rfl rfl (j := h) rfl (by omega) (by decide) dX3_exchange_171 (fun H locs hP hD hS => ?_)
            have hP := pz_x_13 k a S (sT_hours (sT_amounts (ex1 S T n j) (exA S T j 8)) (exH S T j h)) dr tr C F G (vp_updL (T_hours (sT_hours (sT_amounts (ex1 S T n j) (exA S T j 8)) (exH S T j h))) h (((T_hours (sT_hours (sT_amounts (ex1 S T n j) (exA S T j 8)) (exH S T j h))) h) + ((Int32.toInt64 (sgI T j)) * ((S_hours S) (j * 4 + h))))) hP
            have hD := dz_x_13 k a S (sT_hours (sT_amounts (ex1 S T n j) (exA S T j 8)) (exH S T j h)) dr tr C F G (vp_updL (T_hours (sT_hours (sT_amounts (ex1 S T n j) (exA S T j 8)) (exH S T j h))) h (((T_hours (sT_hours (sT_amounts (ex1 S T n j) (exA S T j 8)) (exH S T j h))) h) + ((Int32.toInt64 (sgI T j)) * ((S_hours S) (j * 4 + h))))) hD
            refine lv_iinc (v := nI (h + 1)) (lv' := [(4, .int (nI (h + 1))), (3, .int (othT T j)), (2, .int (sgI T j)), (0, .ref (a 11)), (1, .int (nI j))]) hx hb dX3_exchange_172 hl (k := 0) rfl (nI_add h 1) (by decide) rfl (fun ls hl => ?_)
            refine lv_goto (tgt := 139) hx hb dX3_exchange_175 (by decide) ?_
            exact ih_h (h + 1) (by omega) ls _ _ (lv_sub hl [0, 1, 2, 3, 4] rfl) hP hD hS
        exact loop_h 4 0 (by omega) ls _ _ (lv_sub hl [0, 1, 2, 3, 4] rfl) hP hD hS
      | succ ri ih_i =>
        intro i hi_i ls H locs hl hP hD hS
        have ht_i : i < 8 := by omega
        refine lv_iload hx hb dX3_exchange_95 (lv_at hl 0 rfl) ?_
        refine lv_bipush (v := 8) hx hb dX3_exchange_97 (by decide) ?_
        refine xb_ge (tgt := 136) hx hb dX3_exchange_99 (by decide) (fun c9 => absurd (nI_lt (a := i) (b := 8) (by omega) (by omega)) c9) (fun c_9 => ?_)
        refine lv_aload_n hx hb dX3_exchange_102 rfl (lv_at hl 3 rfl) ?_
        refine va_get (D := k.1) (ci := 3) (v := .ref (a 12)) (C := RX3) (T := TX3) (N := 7) hx hb hU inlX3 hown hK.1 hP 11 rfl rfl 1 (by decide) (hU _ uF_X3_15) (fun _ h9 => h9) rfl dX3_exchange_103 ?_
        refine lv_iload hx hb dX3_exchange_106 (lv_at hl 0 rfl) ?_
        refine lv_dup2_11 hx hb dX3_exchange_108 rfl rfl ?_
        refine xa_lald hx hb hK.1 hP 12 1 rfl rfl (j := i) rfl (by omega) (by decide) dX3_exchange_109 ?_
        refine lv_iload_n hx hb dX3_exchange_110 rfl (lv_at hl 2 rfl) ?_
        refine lv_i2l (v := (Int32.toInt64 (sgI T j))) hx hb dX3_exchange_111 rfl ?_
        refine lv_aload_n hx hb dX3_exchange_112 rfl (lv_at hl 3 rfl) ?_
        refine va_get (D := k.1) (ci := 3) (v := .ref (a 1)) (C := RX3) (T := TX3) (N := 7) hx hb hU inlX3 hown hK.1 hP 11 rfl rfl 0 (by decide) (hU _ uF_X3_9) (fun _ h9 => h9) rfl dX3_exchange_113 ?_
        refine va_getN (D := k.1) (ci := 2) (v := .ref (a 3)) (C := RX2) (T := TX2) (N := 16) hx hb hU inlX2 hown hK.1 hP 1 rfl rfl 1 (by decide) (hK.nf nF_X3_64) (fun _ h9 => h9) rfl dX3_exchange_116 ?_
        refine lv_iload_n hx hb dX3_exchange_119 rfl (lv_at hl 4 rfl) ?_
        refine lv_bipush (v := 8) hx hb dX3_exchange_120 (by decide) ?_
        refine lv_imul hx hb dX3_exchange_122 ?_
        refine lv_iload hx hb dX3_exchange_123 (lv_at hl 0 rfl) ?_
        refine lv_iadd hx hb dX3_exchange_125 ?_
        refine xa_lald hx hb hK.1 hP 3 1 rfl rfl (j := j * 8 + i) (ix8 j i) (by omega) (by decide) dX3_exchange_126 ?_
        refine lv_lmul hx hb dX3_exchange_127 ?_
        refine lv_ladd hx hb dX3_exchange_128 ?_
        refine xa_last hx hb hK.1 hP hD hS 12 1 rfl rfl (j := i) rfl (by omega) (by decide) dX3_exchange_129 (fun H locs hP hD hS => ?_)
        have hP := pz_x_12 k a S (sT_amounts (ex1 S T n j) (exA S T j i)) dr tr C F G (vp_updL (T_amounts (sT_amounts (ex1 S T n j) (exA S T j i))) i (((T_amounts (sT_amounts (ex1 S T n j) (exA S T j i))) i) + ((Int32.toInt64 (sgI T j)) * ((S_amounts S) (j * 8 + i))))) hP
        have hD := dz_x_12 k a S (sT_amounts (ex1 S T n j) (exA S T j i)) dr tr C F G (vp_updL (T_amounts (sT_amounts (ex1 S T n j) (exA S T j i))) i (((T_amounts (sT_amounts (ex1 S T n j) (exA S T j i))) i) + ((Int32.toInt64 (sgI T j)) * ((S_amounts S) (j * 8 + i))))) hD
        refine lv_iinc (v := nI (i + 1)) (lv' := [(4, .int (nI (i + 1))), (3, .int (othT T j)), (2, .int (sgI T j)), (0, .ref (a 11)), (1, .int (nI j))]) hx hb dX3_exchange_130 hl (k := 0) rfl (nI_add i 1) (by decide) rfl (fun ls hl => ?_)
        refine lv_goto (tgt := 95) hx hb dX3_exchange_133 (by decide) ?_
        exact ih_i (i + 1) (by omega) ls _ _ (lv_sub hl [0, 1, 2, 3, 4] rfl) hP hD hS
    exact loop_i 8 0 (by omega) ls _ _ (lv_sub hl [0, 1, 2, 3, 4] rfl) hP hD hS

/-- Tally.begin: all 0, then the cells of the set one by one -/
def bgA (T : TalT) : Nat → Nat → Int64
  | 0 => T_amounts T
  | i + 1 => vp_updL (bgA T i) i 0
def bgH (T : TalT) : Nat → Nat → Int64
  | 0 => T_hours T
  | i + 1 => vp_updL (bgH T i) i 0
def bg0 (T : TalT) : TalT := sT_borderLength (sT_cellCosts (sT_farPairs (sT_cells T 0) 0) 0) 0
def bgC (T : TalT) : TalT := sT_hours (sT_amounts (bg0 T) (bgA T 8)) (bgH T 4)
def bgT (S : SeaT) (T : TalT) (n : Nat) (set : Int32) : Nat → TalT
  | 0 => bgC T
  | i + 1 => if bt set i then ex_T S (bgT S T n set i) n i else bgT S T n set i

set_option maxHeartbeats 4000000 in
set_option maxRecDepth 100000 in
theorem c_X3_begin (l : Launch) (k : KT) (a : Nat → Nat) (S : SeaT) (T : TalT) (dr : Int64) (tr : Int64) (C : ChoT) (F : (Nat → Int32)) (G : GoT) (set : Int32) (n : Nat) (hn : n ≤ 24) (hc : S_cells S = nI n) : MW l yX3_begin cX3_begin 3 none (rz 3 72) k [.ref (a 11), .int set] (xW k a S T dr tr C F G) none (xW k a S (bgT S T n set n) dr tr C F G) := by
  intro sz
  refine Met.ofW (cc := cX3_begin) (maxL := 3) (ret := none) (by decide) rfl ?_
  intro p e s m args below meth c s₁ B hml hv
  obtain ⟨rfl, hsz, hP, hK, hD0⟩ := hv
  have hx := B.exec
  have hb := B.bytes
  have hr := B.returns
  have hU : ∀ w ∈ wsL_law, w.before [.ref (a 11), .int set].toArray s = true := fun w h => atoms_spec (ws := Cond.code yX3_begin cX3_begin 3 none :: wsL_law) B.pre w (List.mem_cons_of_mem _ h)
  have hown : s.vm.findClass RX3 = some m.cls := findClass_of_methodNamed B.named
  have hlocks := B.notSynchronized
  have hF : CF p m c cX3_begin 3 s [.ref (a 11), .int set].toArray RX3 := ⟨hx, hb, hml, hown, hU⟩
  subst hsz
  have hD := hD0.self (sz := s.heap.size)
  generalize hAe : va_A (xW k a S T dr tr C F G) s.heap.size = A at hD ⊢
  have hA : ∀ q : Nat, s.heap.size ≤ q → A q := fun q h => by rw [← hAe]; exact Or.inr h
  have hS : va_S A s.heap s.heap [] := va_S.rf
  have hl := lv_entry ([.ref (a 11), .int set] : List Value) (n := 3) (Nat.le_of_ble_eq_true rfl)
  rw [lg_entry_eq]
  generalize (lg_sl ([.ref (a 11), .int set] : List Value) ++ List.replicate (3 - (lg_sl ([.ref (a 11), .int set] : List Value)).length) Slot.unset).toArray = ls at hl ⊢
  have hl : lv_has ls 3 [(0, .ref (a 11)), (1, .int set)] := hl
  refine lv_aload_n hx hb dX3_begin_0 rfl (lv_at hl 0 rfl) ?_
  refine lv_iconst (v := 0) hx hb dX3_begin_1 (by decide) ?_
  refine va_put (D := k.1) (ci := 3) (v := .int 0) (ty := .int) (C := RX3) (T := TX3) (N := 7) hx hb hU inlX3 tyX3 tyX3_ok nmX3 hown hK.1 hP hD hS 11 rfl rfl 3 (by decide) (hU _ uF_X3_22) (fun _ h9 => h9) rfl (by decide +kernel) rfl rfl (Nat.le_of_ble_eq_true rfl) dX3_begin_2 (fun H locs hP hD hS => ?_)
  have hP := pz_x_11_3 k a S T dr tr C F G 0 hP
  have hD := dz_x_11_3 k a S T dr tr C F G 0 hD
  refine lv_aload_n hx hb dX3_begin_5 rfl (lv_at hl 0 rfl) ?_
  refine lv_iconst (v := 0) hx hb dX3_begin_6 (by decide) ?_
  refine va_put (D := k.1) (ci := 3) (v := .int 0) (ty := .int) (C := RX3) (T := TX3) (N := 7) hx hb hU inlX3 tyX3 tyX3_ok nmX3 hown hK.1 hP hD hS 11 rfl rfl 4 (by decide) (hU _ uF_X3_26) (fun _ h9 => h9) rfl (by decide +kernel) rfl rfl (Nat.le_of_ble_eq_true rfl) dX3_begin_7 (fun H locs hP hD hS => ?_)
  have hP := pz_x_11_4 k a S (sT_cells T 0) dr tr C F G 0 hP
  have hD := dz_x_11_4 k a S (sT_cells T 0) dr tr C F G 0 hD
  refine lv_aload_n hx hb dX3_begin_10 rfl (lv_at hl 0 rfl) ?_
  refine lv_lconst (v := 0) hx hb dX3_begin_11 (by decide) ?_
  refine va_put (D := k.1) (ci := 3) (v := .long 0) (ty := .long) (C := RX3) (T := TX3) (N := 7) hx hb hU inlX3 tyX3 tyX3_ok nmX3 hown hK.1 hP hD hS 11 rfl rfl 5 (by decide) (hU _ uF_X3_29) (fun _ h9 => h9) rfl (by decide +kernel) rfl rfl (Nat.le_of_ble_eq_true rfl) dX3_begin_12 (fun H locs hP hD hS => ?_)
  have hP := pz_x_11_5 k a S (sT_farPairs (sT_cells T 0) 0) dr tr C F G 0 hP
  have hD := dz_x_11_5 k a S (sT_farPairs (sT_cells T 0) 0) dr tr C F G 0 hD
  refine lv_aload_n hx hb dX3_begin_15 rfl (lv_at hl 0 rfl) ?_
  refine lv_lconst (v := 0) hx hb dX3_begin_16 (by decide) ?_
  refine va_put (D := k.1) (ci := 3) (v := .long 0) (ty := .long) (C := RX3) (T := TX3) (N := 7) hx hb hU inlX3 tyX3 tyX3_ok nmX3 hown hK.1 hP hD hS 11 rfl rfl 6 (by decide) (hU _ uF_X3_33) (fun _ h9 => h9) rfl (by decide +kernel) rfl rfl (Nat.le_of_ble_eq_true rfl) dX3_begin_17 (fun H locs hP hD hS => ?_)
  have hP := pz_x_11_6 k a S (sT_cellCosts (sT_farPairs (sT_cells T 0) 0) 0) dr tr C F G 0 hP
  have hD := dz_x_11_6 k a S (sT_cellCosts (sT_farPairs (sT_cells T 0) 0) 0) dr tr C F G 0 hD
  refine lv_iconst (v := 0) hx hb dX3_begin_20 (by decide) ?_
  refine lv_istore_n (lv' := [(2, .int 0), (0, .ref (a 11)), (1, .int set)]) hx hb dX3_begin_21 rfl hl (by decide) rfl (fun ls hl => ?_)
  have loop_h : ∀ (rh h : Nat), h + rh * 1 = 8 → ∀ (ls : Array Slot) (H : Heap) (locs : List Loc) , lv_has ls 3 [(2, .int (nI h)), (0, .ref (a 11)), (1, .int set)] → va_P k.1 vwCl (xW k a S (sT_amounts (bg0 T) (bgA T h)) dr tr C F G) H → va_D A (xW k a S (sT_amounts (bg0 T) (bgA T h)) dr tr C F G) → va_S A s.heap H locs → WW p l e s m below meth c yX3_begin cX3_begin 3 none (rz 3 72) [.ref (a 11), .int set] none k (xW k a S (bgT S T n set n) dr tr C F G) A H locs (F0 m 22 ls []) := by
    intro rh
    induction rh with
    | zero =>
      intro h hi_h ls H locs hl hP hD hS
      have he_h : 8 = h := by omega
      subst he_h
      refine lv_iload_n hx hb dX3_begin_22 rfl (lv_at hl 0 rfl) ?_
      refine lv_bipush (v := 8) hx hb dX3_begin_23 (by decide) ?_
      refine xb_ge (tgt := 41) hx hb dX3_begin_25 (by decide) (fun c_1 => ?_) (fun c9 => absurd c9 (nI_nlt (a := 8) (b := 8) (Nat.le_refl _) (by omega)))
      refine lv_iconst (v := 0) hx hb dX3_begin_41 (by decide) ?_
      refine lv_istore_n (lv' := [(2, .int 0), (0, .ref (a 11)), (1, .int set)]) hx hb dX3_begin_42 rfl hl (by decide) rfl (fun ls hl => ?_)
      have loop_q : ∀ (rq q : Nat), q + rq * 1 = 4 → ∀ (ls : Array Slot) (H : Heap) (locs : List Loc) , lv_has ls 3 [(2, .int (nI q)), (0, .ref (a 11)), (1, .int set)] → va_P k.1 vwCl (xW k a S (sT_hours (sT_amounts (bg0 T) (bgA T 8)) (bgH T q)) dr tr C F G) H → va_D A (xW k a S (sT_hours (sT_amounts (bg0 T) (bgA T 8)) (bgH T q)) dr tr C F G) → va_S A s.heap H locs → WW p l e s m below meth c yX3_begin cX3_begin 3 none (rz 3 72) [.ref (a 11), .int set] none k (xW k a S (bgT S T n set n) dr tr C F G) A H locs (F0 m 43 ls []) := by
        intro rq
        induction rq with
        | zero =>
          intro q hi_q ls H locs hl hP hD hS
          have he_q : 4 = q := by omega
          subst he_q
          refine lv_iload_n hx hb dX3_begin_43 rfl (lv_at hl 0 rfl) ?_
          refine lv_iconst (v := 4) hx hb dX3_begin_44 (by decide) ?_
          refine xb_ge (tgt := 61) hx hb dX3_begin_45 (by decide) (fun c_2 => ?_) (fun c9 => absurd c9 (nI_nlt (a := 4) (b := 4) (Nat.le_refl _) (by omega)))
          refine lv_iconst (v := 0) hx hb dX3_begin_61 (by decide) ?_
          refine lv_istore_n (lv' := [(2, .int 0), (0, .ref (a 11)), (1, .int set)]) hx hb dX3_begin_62 rfl hl (by decide) rfl (fun ls hl => ?_)
          have loop_i : ∀ (ri i : Nat), i + ri * 1 = n → ∀ (ls : Array Slot) (H : Heap) (locs : List Loc) , lv_has ls 3 [(2, .int (nI i)), (0, .ref (a 11)), (1, .int set)] → va_P k.1 vwCl (xW k a S (bgT S T n set i) dr tr C F G) H → va_D A (xW k a S (bgT S T n set i) dr tr C F G) → va_S A s.heap H locs → WW p l e s m below meth c yX3_begin cX3_begin 3 none (rz 3 72) [.ref (a 11), .int set] none k (xW k a S (bgT S T n set n) dr tr C F G) A H locs (F0 m 63 ls []) := by
            intro ri
            induction ri with
            | zero =>
              intro i hi_i ls H locs hl hP hD hS
              have he_i : n = i := by omega
              subst he_i
              refine lv_iload_n hx hb dX3_begin_63 rfl (lv_at hl 0 rfl) ?_
              refine lv_aload_n hx hb dX3_begin_64 rfl (lv_at hl 1 rfl) ?_
              refine va_get (D := k.1) (ci := 3) (v := .ref (a 1)) (C := RX3) (T := TX3) (N := 7) hx hb hU inlX3 hown hK.1 hP 11 rfl rfl 0 (by decide) (hU _ uF_X3_9) (fun _ h9 => h9) rfl dX3_begin_65 ?_
              refine va_getN (D := k.1) (ci := 2) (v := .int (S_cells S)) (C := RX2) (T := TX2) (N := 16) hx hb hU inlX2 hown hK.1 hP 1 rfl rfl 12 (by decide) (hK.nf nF_X3_36) (fun _ h9 => h9) rfl dX3_begin_68 ?_
              refine xb_ge (tgt := 93) hx hb dX3_begin_71 (by decide) (fun c_3 => ?_) (fun c9 => absurd c9 (by rw [hc]; exact nI_nlt (a := n) (b := n) (Nat.le_refl _) (by omega)))
              have hP9 : va_P k.1 vwCl (xW k a S (bgT S T n set n) dr tr C F G) H := hP
              have hD9 : va_D A (xW k a S (bgT S T n set n) dr tr C F G) := hD
              exact W.vret hx hb hr (fun t ht hW => ⟨⟨rfl, by rw [ht]; exact hP9, hD9⟩, hS.F ht⟩) hS.2.2 dX3_begin_93
            | succ ri ih_i =>
              intro i hi_i ls H locs hl hP hD hS
              have ht_i : i < n := by omega
              refine lv_iload_n hx hb dX3_begin_63 rfl (lv_at hl 0 rfl) ?_
              refine lv_aload_n hx hb dX3_begin_64 rfl (lv_at hl 1 rfl) ?_
              refine va_get (D := k.1) (ci := 3) (v := .ref (a 1)) (C := RX3) (T := TX3) (N := 7) hx hb hU inlX3 hown hK.1 hP 11 rfl rfl 0 (by decide) (hU _ uF_X3_9) (fun _ h9 => h9) rfl dX3_begin_65 ?_
              refine va_getN (D := k.1) (ci := 2) (v := .int (S_cells S)) (C := RX2) (T := TX2) (N := 16) hx hb hU inlX2 hown hK.1 hP 1 rfl rfl 12 (by decide) (hK.nf nF_X3_36) (fun _ h9 => h9) rfl dX3_begin_68 ?_
              refine xb_ge (tgt := 93) hx hb dX3_begin_71 (by decide) (fun c9 => absurd (by rw [hc]; exact nI_lt (a := i) (b := n) (by omega) (by omega)) c9) (fun c_4 => ?_)
              refine lv_iload_n hx hb dX3_begin_74 rfl (lv_at hl 2 rfl) ?_
              refine lv_iload_n hx hb dX3_begin_75 rfl (lv_at hl 0 rfl) ?_
              refine rcSN (n := 2) (As := [.int set, .int (nI i)]) (rest := []) hF (c_X4_hasBit l k set (nI i)) (hP.sub (ws' := []) [] rfl) hK uC_X4_hasBit uN_X4 nM_X3_39 uS_X4_hasBit (by decide +kernel) rfl ⟨Nat.le_of_ble_eq_true rfl, Nat.le_of_ble_eq_true rfl⟩ ⟨Nat.zero_le _, Nat.zero_le _⟩ hl.1 rfl (Nat.le_of_ble_eq_true rfl) dX3_begin_76 ?_
              refine lv_if_eq (tgt := 87) hx hb dX3_begin_79 (by decide) (fun c_5 => ?_) (fun c_5 => ?_)
              · refine lv_iinc (v := nI (i + 1)) (lv' := [(2, .int (nI (i + 1))), (0, .ref (a 11)), (1, .int set)]) hx hb dX3_begin_87 hl (k := 0) rfl (nI_add i 1) (by decide) rfl (fun ls hl => ?_)
                refine lv_goto (tgt := 63) hx hb dX3_begin_90 (by decide) ?_
                have eb : bt set i = false := (hb0 set (by omega)).mp c_5
                have hq : (bgT S T n set i) = (bgT S T n set (i + 1)) := by rw [bgT, if_neg (by rw [eb]; decide)]
                rw [hq] at hP hD
                exact ih_i (i + 1) (by omega) ls _ _ (lv_sub hl [0, 1, 2] rfl) hP hD hS
              · refine lv_aload_n hx hb dX3_begin_82 rfl (lv_at hl 1 rfl) ?_
                refine lv_iload_n hx hb dX3_begin_83 rfl (lv_at hl 0 rfl) ?_
                refine wcV (n := 1) (As := [.int (nI i)]) (rest := []) hF (c_X3_exchange l k a S (bgT S T n set i) dr tr C F G i n hn hc (by omega)) hP hD hS hA hK 11 (ci := 3) rfl rfl rfl uC_X3_exchange uN_X3 uM_X3_43 uI_X3_exchange uE_X3_exchange (by decide +kernel) rfl ⟨Nat.le_of_ble_eq_true rfl, Nat.le_of_ble_eq_true rfl⟩ ⟨Nat.zero_le _, Nat.zero_le _⟩ hl.1 rfl (Nat.le_of_ble_eq_true rfl) dX3_begin_84 (fun H locs hP hD hS => ?_)
                have hP : va_P k.1 vwCl (xW k a S (ex_T S (bgT S T n set i) n i) dr tr C F G) H := hP
                have hD : va_D A (xW k a S (ex_T S (bgT S T n set i) n i) dr tr C F G) := hD
                refine lv_iinc (v := nI (i + 1)) (lv' := [(2, .int (nI (i + 1))), (0, .ref (a 11)), (1, .int set)]) hx hb dX3_begin_87 hl (k := 0) rfl (nI_add i 1) (by decide) rfl (fun ls hl => ?_)
                refine lv_goto (tgt := 63) hx hb dX3_begin_90 (by decide) ?_
                have eb : bt set i = true := (hb1 set (by omega)).mp c_5
                have hq : (ex_T S (bgT S T n set i) n i) = (bgT S T n set (i + 1)) := by rw [bgT, if_pos eb]
                rw [hq] at hP hD
                exact ih_i (i + 1) (by omega) ls _ _ (lv_sub hl [0, 1, 2] rfl) hP hD hS
          exact loop_i n 0 (by omega) ls _ _ (lv_sub hl [0, 1, 2] rfl) hP hD hS
        | succ rq ih_q =>
          intro q hi_q ls H locs hl hP hD hS
          have ht_q : q < 4 := by omega
          refine lv_iload_n hx hb dX3_begin_43 rfl (lv_at hl 0 rfl) ?_
          refine lv_iconst (v := 4) hx hb dX3_begin_44 (by decide) ?_
          refine xb_ge (tgt := 61) hx hb dX3_begin_45 (by decide) (fun c9 => absurd (nI_lt (a := q) (b := 4) (by omega) (by omega)) c9) (fun c_6 => ?_)
          refine lv_aload_n hx hb dX3_begin_48 rfl (lv_at hl 1 rfl) ?_
          refine va_get (D := k.1) (ci := 3) (v := .ref (a 13)) (C := RX3) (T := TX3) (N := 7) hx hb hU inlX3 hown hK.1 hP 11 rfl rfl 2 (by decide) (hU _ uF_X3_19) (fun _ h9 => h9) rfl dX3_begin_49 ?_
          refine lv_iload_n hx hb dX3_begin_52 rfl (lv_at hl 0 rfl) ?_
          refine lv_lconst (v := 0) hx hb dX3_begin_53 (by decide) ?_
          refine xa_last hx hb hK.1 hP hD hS 13 1 rfl rfl (j := q) rfl (by omega) (by decide) dX3_begin_54 (fun H locs hP hD hS => ?_)
          have hP := pz_x_13 k a S (sT_hours (sT_amounts (bg0 T) (bgA T 8)) (bgH T q)) dr tr C F G (vp_updL (T_hours (sT_hours (sT_amounts (bg0 T) (bgA T 8)) (bgH T q))) q 0) hP
          have hD := dz_x_13 k a S (sT_hours (sT_amounts (bg0 T) (bgA T 8)) (bgH T q)) dr tr C F G (vp_updL (T_hours (sT_hours (sT_amounts (bg0 T) (bgA T 8)) (bgH T q))) q 0) hD
          refine lv_iinc (v := nI (q + 1)) (lv' := [(2, .int (nI (q + 1))), (0, .ref (a 11)), (1, .int set)]) hx hb dX3_begin_55 hl (k := 0) rfl (nI_add q 1) (by decide) rfl (fun ls hl => ?_)
          refine lv_goto (tgt := 43) hx hb dX3_begin_58 (by decide) ?_
          exact ih_q (q + 1) (by omega) ls _ _ (lv_sub hl [0, 1, 2] rfl) hP hD hS
      exact loop_q 4 0 (by omega) ls _ _ (lv_sub hl [0, 1, 2] rfl) hP hD hS
    | succ rh ih_h =>
      intro h hi_h ls H locs hl hP hD hS
      have ht_h : h < 8 := by omega
      refine lv_iload_n hx hb dX3_begin_22 rfl (lv_at hl 0 rfl) ?_
      refine lv_bipush (v := 8) hx hb dX3_begin_23 (by decide) ?_
      refine xb_ge (tgt := 41) hx hb dX3_begin_25 (by decide) (fun c9 => absurd (nI_lt (a := h) (b := 8) (by omega) (by omega)) c9) (fun c_7 => ?_)
      refine lv_aload_n hx hb dX3_begin_28 rfl (lv_at hl 1 rfl) ?_
      refine va_get (D := k.1) (ci := 3) (v := .ref (a 12)) (C := RX3) (T := TX3) (N := 7) hx hb hU inlX3 hown hK.1 hP 11 rfl rfl 1 (by decide) (hU _ uF_X3_15) (fun _ h9 => h9) rfl dX3_begin_29 ?_
      refine lv_iload_n hx hb dX3_begin_32 rfl (lv_at hl 0 rfl) ?_
      refine lv_lconst (v := 0) hx hb dX3_begin_33 (by decide) ?_
      refine xa_last hx hb hK.1 hP hD hS 12 1 rfl rfl (j := h) rfl (by omega) (by decide) dX3_begin_34 (fun H locs hP hD hS => ?_)
      have hP := pz_x_12 k a S (sT_amounts (bg0 T) (bgA T h)) dr tr C F G (vp_updL (T_amounts (sT_amounts (bg0 T) (bgA T h))) h 0) hP
      have hD := dz_x_12 k a S (sT_amounts (bg0 T) (bgA T h)) dr tr C F G (vp_updL (T_amounts (sT_amounts (bg0 T) (bgA T h))) h 0) hD
      refine lv_iinc (v := nI (h + 1)) (lv' := [(2, .int (nI (h + 1))), (0, .ref (a 11)), (1, .int set)]) hx hb dX3_begin_35 hl (k := 0) rfl (nI_add h 1) (by decide) rfl (fun ls hl => ?_)
      refine lv_goto (tgt := 22) hx hb dX3_begin_38 (by decide) ?_
      exact ih_h (h + 1) (by omega) ls _ _ (lv_sub hl [0, 1, 2] rfl) hP hD hS
  exact loop_h 8 0 (by omega) ls _ _ (lv_sub hl [0, 1, 2] rfl) hP hD hS
end
section
/-! counts of bits, the first place that a test finds, Euclid's steps, the free cells in a row -/
def cn (x : Int32) : Nat → Nat
  | 0 => 0
  | i + 1 => if bt x i then cn x i + 1 else cn x i
theorem cn_le (x : Int32) (i : Nat) : cn x i ≤ i := by
  induction i with
  | zero => exact Nat.le_refl 0
  | succ i ih =>
    rw [cn]
    split <;> omega
theorem cn_mono (x : Int32) {i j : Nat} (h : i ≤ j) : cn x i ≤ cn x j := by
  induction j with
  | zero => rw [show i = 0 by omega]; exact Nat.le_refl _
  | succ j ih =>
    rcases Nat.lt_or_ge i (j + 1) with h1 | h1
    · refine Nat.le_trans (ih (by omega)) ?_
      rw [cn]
      split <;> omega
    · rw [show i = j + 1 by omega]; exact Nat.le_refl _
def fnd (q : Nat → Bool) : Nat → Int32
  | 0 => -1
  | n + 1 => if fnd q n = -1 then (if q n then nI n else -1) else fnd q n
theorem nI_ne_m1 {n : Nat} (h : n < 2 ^ 31) : ¬ nI n = -1 := by
  intro e
  have h1 : (nI n).toInt = (-1 : Int32).toInt := by rw [e]
  rw [nI_toInt h] at h1
  have h2 : (-1 : Int32).toInt = -1 := by decide
  omega
theorem fnd_none {q : Nat → Bool} {n : Nat} (h : ∀ j, j < n → q j = false) : fnd q n = -1 := by
  induction n with
  | zero => rfl
  | succ n ih =>
    rw [fnd, if_pos (ih (fun j hj => h j (by omega))), h n (by omega)]
    rfl
theorem fnd_some {q : Nat → Bool} {n i : Nat} (hn : n < 2 ^ 31) (h : ∀ j, j < i → q j = false) (hi : i < n) (hq : q i = true) : fnd q n = nI i := by
  induction n with
  | zero => omega
  | succ n ih =>
    rw [fnd]
    rcases Nat.lt_or_ge i n with h1 | h1
    · rw [ih (by omega) h1, if_neg (nI_ne_m1 (by omega))]
    · have e : i = n := by omega
      subst e
      rw [if_pos (fnd_none h), if_pos hq]
theorem fnd_congr {q r : Nat → Bool} {n : Nat} (h : ∀ j, j < n → q j = r j) : fnd q n = fnd r n := by
  induction n with
  | zero => rfl
  | succ n ih => rw [fnd, fnd, ih (fun j hj => h j (by omega)), h n (by omega)]
theorem fnd_cut {q : Nat → Bool} {n m : Nat} (hnm : n ≤ m) (h : ∀ j, n ≤ j → j < m → q j = false) : fnd q m = fnd q n := by
  induction m with
  | zero => rw [show n = 0 by omega]
  | succ m ih =>
    rcases Nat.lt_or_ge n (m + 1) with h1 | h1
    · have e := ih (by omega) (fun j h2 h3 => h j h2 (by omega))
      rw [fnd, h m (by omega) (by omega)]
      split
      · rename_i h9
        rw [← e, h9]
        rfl
      · exact e
    · rw [show n = m + 1 by omega]
/-- Euclid's steps, in Java's own remainder -/
def eu (a b : Int64) : Nat → Int64 × Int64
  | 0 => (a, b)
  | i + 1 => if (eu a b i).2 = 0 then eu a b i else ((eu a b i).2, (eu a b i).1 - (eu a b i).1 / (eu a b i).2 * (eu a b i).2)
theorem eu_stop {a b : Int64} {i n : Nat} (h : (eu a b i).2 = 0) (hn : i ≤ n) : eu a b n = eu a b i := by
  induction n with
  | zero => rw [show i = 0 by omega]
  | succ n ih =>
    rcases Nat.lt_or_ge i (n + 1) with h1 | h1
    · have e := ih (by omega)
      rw [eu, e, if_pos h]
    · rw [show i = n + 1 by omega]
/-- the free cells, in a row: the m-th place of a bit -/
def fcN (x : Int32) : Nat → Nat → Nat
  | 0, _ => 0
  | i + 1, m => if bt x i then (if m = cn x i then i else fcN x i m) else fcN x i m
def lfF (x : Int32) (F : Nat → Int32) : Nat → Nat → Int32
  | 0 => F
  | i + 1 => if bt x i then upd (lfF x F i) (cn x i) (nI i) else lfF x F i
theorem lfF_at (x : Int32) (F : Nat → Int32) {i m : Nat} (hm : m < cn x i) : lfF x F i m = nI (fcN x i m) := by
  induction i with
  | zero => exact absurd hm (Nat.not_lt_zero m)
  | succ i ih =>
    rw [lfF, fcN]
    rw [cn] at hm
    by_cases hb : bt x i = true
    · rw [if_pos hb] at hm ⊢
      rw [if_pos hb]
      by_cases he : m = cn x i
      · rw [if_pos he, he]; exact pk_us
      · rw [if_neg he, pk_un he]; exact ih (by omega)
    · rw [if_neg hb] at hm ⊢
      rw [if_neg hb]
      exact ih hm
theorem fcN_lt (x : Int32) {i m : Nat} (hm : m < cn x i) : fcN x i m < i := by
  induction i with
  | zero => exact absurd hm (Nat.not_lt_zero m)
  | succ i ih =>
    rw [fcN]
    rw [cn] at hm
    by_cases hb : bt x i = true
    · rw [if_pos hb] at hm ⊢
      by_cases he : m = cn x i
      · rw [if_pos he]; omega
      · rw [if_neg he]; have := ih (by omega); omega
    · rw [if_neg hb] at hm ⊢
      have := ih hm; omega
theorem bc_nat (x : Int32) : ∃ j : Nat, j < 64 ∧ w_bitCount x = nI j := pk_andE _ 6 (by decide)
theorem m2_pos {k : Nat} (h : k ≤ 12) : 2 ^ k ≤ 4096 := Nat.pow_le_pow_right (by omega) h
theorem shl_nI : ∀ k, k < 31 → (1 : Int32) <<< (nI k &&& 31) = nI (2 ^ k) := by decide +kernel
theorem lrem_nI {v : Int64} {n : Nat} (h0 : 0 < n) (hn : n < 2 ^ 31) (hv : ¬ v < 0) : ∃ j : Nat, j < n ∧ Int64.toInt32 (v - v / Int32.toInt64 (nI n) * Int32.toInt64 (nI n)) = nI j := by
  obtain ⟨q, hq, rfl⟩ := pk_lOf hv
  rw [nI_l hn, pk_lRem hq h0 (by omega)]
  exact ⟨q % n, Nat.mod_lt _ h0, lN_i _⟩
theorem lu1_nonneg (x : Int64) : ¬ lu x 1 < 0 := by
  intro h
  have h1 : (lu x 1).toBitVec.msb = false := by
    show (x.toUInt64 >>> ((1 : Int32).toInt64.toUInt64 &&& Int64.toUInt64 63)).toBitVec.msb = false
    rw [UInt64.toBitVec_shiftRight]
    show (x.toUInt64.toBitVec >>> ((((1 : Int32).toInt64.toUInt64 &&& Int64.toUInt64 63).toBitVec % 64).toNat)).msb = false
    rw [show ((((1 : Int32).toInt64.toUInt64 &&& Int64.toUInt64 63).toBitVec % 64).toNat) = 1 by decide +kernel]
    rw [BitVec.msb_ushiftRight]
    rfl
  have h2 : (lu x 1).toInt < 0 := by simpa [Int64.lt_iff_toInt_lt] using h
  rw [← Int64.toInt_toBitVec] at h2
  have h3 := BitVec.msb_eq_toInt (x := (lu x 1).toBitVec)
  rw [h1, decide_eq_true h2] at h3
  cases h3
end
section
def q_pob (set kk : Int32) : Nat → Bool := fun i => bt set i && decide (nI (cn set i) = kk)
def w_X4_placeOfBit (set kk : Int32) : Int32 := fnd (q_pob set kk) 24
set_option maxHeartbeats 4000000 in
set_option maxRecDepth 100000 in
theorem c_X4_placeOfBit (l : Launch) (k : KT)  (set : Int32) (kk : Int32)  : MR l yX4_placeOfBit cX4_placeOfBit 4 (some .int) (rz 1 21) k [.int set, .int kk] [] (.int (w_X4_placeOfBit set kk)) := by
  refine Met.ofW (cc := cX4_placeOfBit) (maxL := 4) (ret := (some .int)) (by decide) rfl ?_
  intro p e s m args below meth c s₁ B hml hv
  obtain ⟨rfl, hP, hK⟩ := hv
  have hx := B.exec
  have hb := B.bytes
  have hr := B.returns
  have hU : ∀ w ∈ wsL_law, w.before [.int set, .int kk].toArray s = true := fun w h => atoms_spec (ws := Cond.code yX4_placeOfBit cX4_placeOfBit 4 (some .int) :: wsL_law) B.pre w (List.mem_cons_of_mem _ h)
  have hown : s.vm.findClass RX4 = some m.cls := findClass_of_methodNamed B.named
  have hlocks := B.notSynchronized
  have hF : CF p m c cX4_placeOfBit 4 s [.int set, .int kk].toArray RX4 := ⟨hx, hb, hml, hown, hU⟩
  have hl := lv_entry ([.int set, .int kk] : List Value) (n := 4) (Nat.le_of_ble_eq_true rfl)
  rw [lg_entry_eq]
  generalize (lg_sl ([.int set, .int kk] : List Value) ++ List.replicate (4 - (lg_sl ([.int set, .int kk] : List Value)).length) Slot.unset).toArray = ls at hl ⊢
  have hl : lv_has ls 4 [(0, .int set), (1, .int kk)] := hl
  refine lv_iconst (v := 0) hx hb dX4_placeOfBit_0 (by decide) ?_
  refine lv_istore_n (lv' := [(2, .int 0), (0, .int set), (1, .int kk)]) hx hb dX4_placeOfBit_1 rfl hl (by decide) rfl (fun ls hl => ?_)
  refine lv_iconst (v := 0) hx hb dX4_placeOfBit_2 (by decide) ?_
  refine lv_istore_n (lv' := [(3, .int 0), (2, .int 0), (0, .int set), (1, .int kk)]) hx hb dX4_placeOfBit_3 rfl hl (by decide) rfl (fun ls hl => ?_)
  have loop_i : ∀ (ri i : Nat), i + ri * 1 = 24 → ∀ (ls : Array Slot) , lv_has ls 4 [(3, .int (nI i)), (2, .int (nI (cn set i))), (0, .int set), (1, .int kk)] → (∀ j, j < i → q_pob set kk j = false) → WR p l e s m below meth c yX4_placeOfBit cX4_placeOfBit 4 (some .int) (rz 1 21) [.int set, .int kk] (.int (w_X4_placeOfBit set kk)) (F0 m 4 ls []) := by
    intro ri
    induction ri with
    | zero =>
      intro i hi_i ls hl hv_i
      have he_i : 24 = i := by omega
      subst he_i
      refine lv_iload_n hx hb dX4_placeOfBit_4 rfl (lv_at hl 0 rfl) ?_
      refine lv_bipush (v := 24) hx hb dX4_placeOfBit_5 (by decide) ?_
      refine xb_ge (tgt := 34) hx hb dX4_placeOfBit_7 (by decide) (fun c_1 => ?_) (fun c9 => absurd c9 (nI_nlt (a := 24) (b := 24) (Nat.le_refl _) (by omega)))
      refine lv_iconst (v := (-1)) hx hb dX4_placeOfBit_34 (by decide) ?_
      exact W.iret (v := (-1)) hx hb hr (fun t ht hW => ⟨by rw [w_X4_placeOfBit, fnd_none hv_i], ht⟩) (fun q h => absurd h List.not_mem_nil) dX4_placeOfBit_35
    | succ ri ih_i =>
      intro i hi_i ls hl hv_i
      have ht_i : i < 24 := by omega
      refine lv_iload_n hx hb dX4_placeOfBit_4 rfl (lv_at hl 0 rfl) ?_
      refine lv_bipush (v := 24) hx hb dX4_placeOfBit_5 (by decide) ?_
      refine xb_ge (tgt := 34) hx hb dX4_placeOfBit_7 (by decide) (fun c9 => absurd (nI_lt (a := i) (b := 24) (by omega) (by omega)) c9) (fun c_2 => ?_)
      refine lv_iload_n hx hb dX4_placeOfBit_10 rfl (lv_at hl 2 rfl) ?_
      refine lv_iload_n hx hb dX4_placeOfBit_11 rfl (lv_at hl 0 rfl) ?_
      refine rcS (n := 2) (As := [.int set, .int (nI i)]) (rest := []) hF (c_X4_hasBit l k set (nI i)) (hP.sub (ws' := []) [] rfl) hK uC_X4_hasBit uN_X4 uM_X4_120 uS_X4_hasBit (by decide +kernel) rfl ⟨Nat.le_of_ble_eq_true rfl, Nat.le_of_ble_eq_true rfl⟩ ⟨Nat.zero_le _, Nat.zero_le _⟩ hl.1 rfl (Nat.le_of_ble_eq_true rfl) dX4_placeOfBit_12 ?_
      refine lv_if_eq (tgt := 28) hx hb dX4_placeOfBit_15 (by decide) (fun c_3 => ?_) (fun c_3 => ?_)
      · refine lv_iinc (v := nI (i + 1)) (lv' := [(3, .int (nI (i + 1))), (2, .int (nI (cn set i))), (0, .int set), (1, .int kk)]) hx hb dX4_placeOfBit_28 hl (k := 0) rfl (nI_add i 1) (by decide) rfl (fun ls hl => ?_)
        refine lv_goto (tgt := 4) hx hb dX4_placeOfBit_31 (by decide) ?_
        have eb : bt set i = false := (hb0 set (by omega)).mp c_3
        have hq : (nI (cn set i)) = (nI (cn set (i + 1))) := by rw [cn, if_neg (by rw [eb]; decide)]
        rw [hq] at hl
        have hv2 : ∀ j, j < i + 1 → q_pob set kk j = false := lt_s hv_i (by simp [q_pob, eb])
        exact ih_i (i + 1) (by omega) ls (lv_sub hl [0, 1, 2, 3] rfl) hv2
      · refine lv_iload_n hx hb dX4_placeOfBit_18 rfl (lv_at hl 1 rfl) ?_
        refine lv_iload_n hx hb dX4_placeOfBit_19 rfl (lv_at hl 3 rfl) ?_
        refine lv_icmp_ne (tgt := 25) hx hb dX4_placeOfBit_20 (by decide) (fun c_4 => ?_) (fun c_4 => ?_)
        · refine lv_iinc (v := nI ((cn set i) + 1)) (lv' := [(2, .int (nI ((cn set i) + 1))), (3, .int (nI i)), (0, .int set), (1, .int kk)]) hx hb dX4_placeOfBit_25 hl (k := 1) rfl (nI_add (cn set i) 1) (by decide) rfl (fun ls hl => ?_)
          refine lv_iinc (v := nI (i + 1)) (lv' := [(3, .int (nI (i + 1))), (2, .int (nI ((cn set i) + 1))), (0, .int set), (1, .int kk)]) hx hb dX4_placeOfBit_28 hl (k := 1) rfl (nI_add i 1) (by decide) rfl (fun ls hl => ?_)
          refine lv_goto (tgt := 4) hx hb dX4_placeOfBit_31 (by decide) ?_
          have eb : bt set i = true := (hb1 set (by omega)).mp c_3
          have hq : nI ((cn set i) + 1) = (nI (cn set (i + 1))) := by rw [cn, if_pos eb]
          rw [hq] at hl
          have hv2 : ∀ j, j < i + 1 → q_pob set kk j = false := lt_s hv_i (by simp [q_pob, c_4])
          exact ih_i (i + 1) (by omega) ls (lv_sub hl [0, 1, 2, 3] rfl) hv2
        · refine lv_iload_n hx hb dX4_placeOfBit_23 rfl (lv_at hl 0 rfl) ?_
          exact W.iret (v := (nI i)) hx hb hr (fun t ht hW => ⟨by rw [w_X4_placeOfBit, fnd_some (by decide) hv_i ht_i (by simp [q_pob, (hb1 set (by omega)).mp c_3, c_4])], ht⟩) (fun q h => absurd h List.not_mem_nil) dX4_placeOfBit_24
  exact loop_i 24 0 (by omega) ls (lv_sub hl [0, 1, 2, 3] rfl) (fun j h => absurd h (Nat.not_lt_zero j))

def w_X4_commonDivisor (av bv : Int64) : Int64 := if (eu av bv 100).1 = 0 then 1 else (eu av bv 100).1
theorem cd_ne0 (av bv : Int64) : ¬ w_X4_commonDivisor av bv = 0 := by
  unfold w_X4_commonDivisor
  split
  · decide
  · assumption
set_option maxHeartbeats 4000000 in
set_option maxRecDepth 100000 in
theorem c_X4_commonDivisor (l : Launch) (k : KT)  (av : Int64) (bv : Int64)  : MR l yX4_commonDivisor cX4_commonDivisor 11 (some .long) (rz 0 0) k [.long av, .long bv] [] (.long (w_X4_commonDivisor av bv)) := by
  refine Met.ofW (cc := cX4_commonDivisor) (maxL := 11) (ret := (some .long)) (by decide) rfl ?_
  intro p e s m args below meth c s₁ B hml hv
  obtain ⟨rfl, hP, hK⟩ := hv
  have hx := B.exec
  have hb := B.bytes
  have hr := B.returns
  have hU : ∀ w ∈ wsL_law, w.before [.long av, .long bv].toArray s = true := fun w h => atoms_spec (ws := Cond.code yX4_commonDivisor cX4_commonDivisor 11 (some .long) :: wsL_law) B.pre w (List.mem_cons_of_mem _ h)
  have hown : s.vm.findClass RX4 = some m.cls := findClass_of_methodNamed B.named
  have hlocks := B.notSynchronized
  have hF : CF p m c cX4_commonDivisor 11 s [.long av, .long bv].toArray RX4 := ⟨hx, hb, hml, hown, hU⟩
  have hl := lv_entry ([.long av, .long bv] : List Value) (n := 11) (Nat.le_of_ble_eq_true rfl)
  rw [lg_entry_eq]
  generalize (lg_sl ([.long av, .long bv] : List Value) ++ List.replicate (11 - (lg_sl ([.long av, .long bv] : List Value)).length) Slot.unset).toArray = ls at hl ⊢
  have hl : lv_has ls 11 [(0, .long av), (2, .long bv)] := hl
  refine lv_lload_n hx hb dX4_commonDivisor_0 rfl (lv_at hl 0 rfl) ?_
  refine lv_lstore (lv' := [(4, .long av), (0, .long av), (2, .long bv)]) hx hb dX4_commonDivisor_1 hl (by decide) rfl (fun ls hl => ?_)
  refine lv_lload_n hx hb dX4_commonDivisor_3 rfl (lv_at hl 2 rfl) ?_
  refine lv_lstore (lv' := [(6, .long bv), (4, .long av), (0, .long av), (2, .long bv)]) hx hb dX4_commonDivisor_4 hl (by decide) rfl (fun ls hl => ?_)
  refine lv_iconst (v := 0) hx hb dX4_commonDivisor_6 (by decide) ?_
  refine lv_istore (lv' := [(8, .int 0), (6, .long bv), (4, .long av), (0, .long av), (2, .long bv)]) hx hb dX4_commonDivisor_7 hl (by decide) rfl (fun ls hl => ?_)
  have loop_i : ∀ (ri i : Nat), i + ri * 1 = 100 → ∀ (ls : Array Slot) , lv_has ls 11 [(8, .int (nI i)), (6, .long ((eu av bv i).2)), (4, .long ((eu av bv i).1)), (0, .long av), (2, .long bv)] → WR p l e s m below meth c yX4_commonDivisor cX4_commonDivisor 11 (some .long) (rz 0 0) [.long av, .long bv] (.long (w_X4_commonDivisor av bv)) (F0 m 9 ls []) := by
    intro ri
    induction ri with
    | zero =>
      intro i hi_i ls hl
      have he_i : 100 = i := by omega
      subst he_i
      refine lv_iload hx hb dX4_commonDivisor_9 (lv_at hl 0 rfl) ?_
      refine lv_bipush (v := 100) hx hb dX4_commonDivisor_11 (by decide) ?_
      refine xb_ge (tgt := 44) hx hb dX4_commonDivisor_13 (by decide) (fun c_1 => ?_) (fun c9 => absurd c9 (nI_nlt (a := 100) (b := 100) (Nat.le_refl _) (by omega)))
      refine lv_lload hx hb dX4_commonDivisor_44 (lv_at hl 2 rfl) ?_
      refine lv_lconst (v := 0) hx hb dX4_commonDivisor_46 (by decide) ?_
      refine xl_ne (tgt := 55) hx hb dX4_commonDivisor_47 dX4_commonDivisor_48 (by decide) (fun c_2 => ?_) (fun c_2 => ?_)
      · refine lv_lload hx hb dX4_commonDivisor_55 (lv_at hl 2 rfl) ?_
        exact W.lret (v := ((eu av bv 100).1)) hx hb hr (fun t ht hW => ⟨by rw [w_X4_commonDivisor, if_neg c_2], ht⟩) (fun q h => absurd h List.not_mem_nil) dX4_commonDivisor_57
      · refine lv_lconst (v := 1) hx hb dX4_commonDivisor_51 (by decide) ?_
        refine lv_goto (tgt := 57) hx hb dX4_commonDivisor_52 (by decide) ?_
        exact W.lret (v := 1) hx hb hr (fun t ht hW => ⟨by rw [w_X4_commonDivisor, if_pos c_2], ht⟩) (fun q h => absurd h List.not_mem_nil) dX4_commonDivisor_57
    | succ ri ih_i =>
      intro i hi_i ls hl
      have ht_i : i < 100 := by omega
      refine lv_iload hx hb dX4_commonDivisor_9 (lv_at hl 0 rfl) ?_
      refine lv_bipush (v := 100) hx hb dX4_commonDivisor_11 (by decide) ?_
      refine xb_ge (tgt := 44) hx hb dX4_commonDivisor_13 (by decide) (fun c9 => absurd (nI_lt (a := i) (b := 100) (by omega) (by omega)) c9) (fun c_3 => ?_)
      refine lv_lload hx hb dX4_commonDivisor_16 (lv_at hl 1 rfl) ?_
      refine lv_lconst (v := 0) hx hb dX4_commonDivisor_18 (by decide) ?_
      refine xl_eq (tgt := 44) hx hb dX4_commonDivisor_19 dX4_commonDivisor_20 (by decide) (fun c_4 => ?_) (fun c_4 => ?_)
      · refine lv_lload hx hb dX4_commonDivisor_44 (lv_at hl 2 rfl) ?_
        refine lv_lconst (v := 0) hx hb dX4_commonDivisor_46 (by decide) ?_
        refine xl_ne (tgt := 55) hx hb dX4_commonDivisor_47 dX4_commonDivisor_48 (by decide) (fun c_5 => ?_) (fun c_5 => ?_)
        · refine lv_lload hx hb dX4_commonDivisor_55 (lv_at hl 2 rfl) ?_
          exact W.lret (v := ((eu av bv i).1)) hx hb hr (fun t ht hW => ⟨by rw [w_X4_commonDivisor, eu_stop c_4 (by omega : i ≤ 100), if_neg c_5], ht⟩) (fun q h => absurd h List.not_mem_nil) dX4_commonDivisor_57
        · refine lv_lconst (v := 1) hx hb dX4_commonDivisor_51 (by decide) ?_
          refine lv_goto (tgt := 57) hx hb dX4_commonDivisor_52 (by decide) ?_
          exact W.lret (v := 1) hx hb hr (fun t ht hW => ⟨by rw [w_X4_commonDivisor, eu_stop c_4 (by omega : i ≤ 100), if_pos c_5], ht⟩) (fun q h => absurd h List.not_mem_nil) dX4_commonDivisor_57
      · refine lv_lload hx hb dX4_commonDivisor_23 (lv_at hl 2 rfl) ?_
        refine lv_lload hx hb dX4_commonDivisor_25 (lv_at hl 1 rfl) ?_
        refine lv_lrem hx hb dX4_commonDivisor_27 c_4 ?_
        refine lv_lstore (lv' := [(9, .long (((eu av bv i).1) - ((eu av bv i).1) / ((eu av bv i).2) * ((eu av bv i).2))), (8, .int (nI i)), (6, .long ((eu av bv i).2)), (4, .long ((eu av bv i).1)), (0, .long av), (2, .long bv)]) hx hb dX4_commonDivisor_28 hl (by decide) rfl (fun ls hl => ?_)
        refine lv_lload hx hb dX4_commonDivisor_30 (lv_at hl 2 rfl) ?_
        refine lv_lstore (lv' := [(4, .long ((eu av bv i).2)), (9, .long (((eu av bv i).1) - ((eu av bv i).1) / ((eu av bv i).2) * ((eu av bv i).2))), (8, .int (nI i)), (6, .long ((eu av bv i).2)), (0, .long av), (2, .long bv)]) hx hb dX4_commonDivisor_32 hl (by decide) rfl (fun ls hl => ?_)
        refine lv_lload hx hb dX4_commonDivisor_34 (lv_at hl 1 rfl) ?_
        refine lv_lstore (lv' := [(6, .long (((eu av bv i).1) - ((eu av bv i).1) / ((eu av bv i).2) * ((eu av bv i).2))), (4, .long ((eu av bv i).2)), (9, .long (((eu av bv i).1) - ((eu av bv i).1) / ((eu av bv i).2) * ((eu av bv i).2))), (8, .int (nI i)), (0, .long av), (2, .long bv)]) hx hb dX4_commonDivisor_36 hl (by decide) rfl (fun ls hl => ?_)
        refine lv_iinc (v := nI (i + 1)) (lv' := [(8, .int (nI (i + 1))), (6, .long (((eu av bv i).1) - ((eu av bv i).1) / ((eu av bv i).2) * ((eu av bv i).2))), (4, .long ((eu av bv i).2)), (9, .long (((eu av bv i).1) - ((eu av bv i).1) / ((eu av bv i).2) * ((eu av bv i).2))), (0, .long av), (2, .long bv)]) hx hb dX4_commonDivisor_38 hl (k := 3) rfl (nI_add i 1) (by decide) rfl (fun ls hl => ?_)
        refine lv_goto (tgt := 9) hx hb dX4_commonDivisor_41 (by decide) ?_
        have hq2 : ((eu av bv i).1 - (eu av bv i).1 / (eu av bv i).2 * (eu av bv i).2) = (eu av bv (i + 1)).2 := by rw [eu, if_neg c_4]
        rw [hq2] at hl
        have hq1 : (eu av bv i).2 = (eu av bv (i + 1)).1 := by rw [eu, if_neg c_4]
        rw [hq1] at hl
        exact ih_i (i + 1) (by omega) ls (lv_sub hl [0, 1, 2, 4, 5] rfl)
  exact loop_i 100 0 (by omega) ls (lv_sub hl [0, 1, 2, 3, 4] rfl)

def w_X4_partOf (some_ : Int64) (all_ : Int64) (part : Int32) : Int64 := if part = 0 then if some_ = 0 then (Int32.toInt64 part) else if all_ = 0 then (Int32.toInt64 part) else if part = 0 then (some_ / (w_X4_commonDivisor some_ all_)) else (all_ / (w_X4_commonDivisor some_ all_)) else if part = 1 then if some_ = 0 then (Int32.toInt64 part) else if all_ = 0 then (Int32.toInt64 part) else if part = 0 then (some_ / (w_X4_commonDivisor some_ all_)) else (all_ / (w_X4_commonDivisor some_ all_)) else (-1)
set_option maxHeartbeats 4000000 in
set_option maxRecDepth 100000 in
theorem c_X4_partOf (l : Launch) (k : KT)  (some_ : Int64) (all_ : Int64) (part : Int32)  : MR l yX4_partOf cX4_partOf 7 (some .long) (rz 1 30) k [.long some_, .long all_, .int part] [] (.long (w_X4_partOf some_ all_ part)) := by
  refine Met.ofW (cc := cX4_partOf) (maxL := 7) (ret := (some .long)) (by decide) rfl ?_
  intro p e s m args below meth c s₁ B hml hv
  obtain ⟨rfl, hP, hK⟩ := hv
  have hx := B.exec
  have hb := B.bytes
  have hr := B.returns
  have hU : ∀ w ∈ wsL_law, w.before [.long some_, .long all_, .int part].toArray s = true := fun w h => atoms_spec (ws := Cond.code yX4_partOf cX4_partOf 7 (some .long) :: wsL_law) B.pre w (List.mem_cons_of_mem _ h)
  have hown : s.vm.findClass RX4 = some m.cls := findClass_of_methodNamed B.named
  have hlocks := B.notSynchronized
  have hF : CF p m c cX4_partOf 7 s [.long some_, .long all_, .int part].toArray RX4 := ⟨hx, hb, hml, hown, hU⟩
  have hl := lv_entry ([.long some_, .long all_, .int part] : List Value) (n := 7) (Nat.le_of_ble_eq_true rfl)
  rw [lg_entry_eq]
  generalize (lg_sl ([.long some_, .long all_, .int part] : List Value) ++ List.replicate (7 - (lg_sl ([.long some_, .long all_, .int part] : List Value)).length) Slot.unset).toArray = ls at hl ⊢
  have hl : lv_has ls 7 [(0, .long some_), (2, .long all_), (4, .int part)] := hl
  refine lv_iload hx hb dX4_partOf_0 (lv_at hl 2 rfl) ?_
  refine lv_if_eq (tgt := 15) hx hb dX4_partOf_2 (by decide) (fun c_1 => ?_) (fun c_1 => ?_)
  · refine lv_lload_n hx hb dX4_partOf_15 rfl (lv_at hl 0 rfl) ?_
    refine lv_lconst (v := 0) hx hb dX4_partOf_16 (by decide) ?_
    refine xl_eq (tgt := 27) hx hb dX4_partOf_17 dX4_partOf_18 (by decide) (fun c_2 => ?_) (fun c_2 => ?_)
    · refine lv_iload hx hb dX4_partOf_27 (lv_at hl 2 rfl) ?_
      refine lv_i2l (v := (Int32.toInt64 part)) hx hb dX4_partOf_29 rfl ?_
      exact W.lret (v := (Int32.toInt64 part)) hx hb hr (fun t ht hW => ⟨by rw [w_X4_partOf, if_pos c_1, if_pos c_2], ht⟩) (fun q h => absurd h List.not_mem_nil) dX4_partOf_30
    · refine lv_lload_n hx hb dX4_partOf_21 rfl (lv_at hl 1 rfl) ?_
      refine lv_lconst (v := 0) hx hb dX4_partOf_22 (by decide) ?_
      refine xl_ne (tgt := 31) hx hb dX4_partOf_23 dX4_partOf_24 (by decide) (fun c_3 => ?_) (fun c_3 => ?_)
      · refine lv_lload_n hx hb dX4_partOf_31 rfl (lv_at hl 0 rfl) ?_
        refine lv_lload_n hx hb dX4_partOf_32 rfl (lv_at hl 1 rfl) ?_
        refine rcS (n := 2) (As := [.long some_, .long all_]) (rest := []) hF (c_X4_commonDivisor l k  some_ all_ ) (hP.sub (ws' := []) [] rfl) hK uC_X4_commonDivisor uN_X4 uM_X4_225 uS_X4_commonDivisor (by decide +kernel) rfl ⟨Nat.le_of_ble_eq_true rfl, Nat.le_of_ble_eq_true rfl⟩ ⟨Nat.zero_le _, Nat.zero_le _⟩ hl.1 rfl (Nat.le_of_ble_eq_true rfl) dX4_partOf_33 ?_
        refine lv_lstore (lv' := [(5, .long (w_X4_commonDivisor some_ all_)), (0, .long some_), (2, .long all_), (4, .int part)]) hx hb dX4_partOf_36 hl (by decide) rfl (fun ls hl => ?_)
        refine lv_iload hx hb dX4_partOf_38 (lv_at hl 3 rfl) ?_
        refine lv_if_ne (tgt := 47) hx hb dX4_partOf_40 (by decide) (fun c_4 => ?_) (fun c_4 => ?_)
        · refine lv_lload_n hx hb dX4_partOf_47 rfl (lv_at hl 2 rfl) ?_
          refine lv_lload hx hb dX4_partOf_48 (lv_at hl 0 rfl) ?_
          refine lv_ldiv hx hb dX4_partOf_50 (cd_ne0 _ _) ?_
          exact W.lret (v := (all_ / (w_X4_commonDivisor some_ all_))) hx hb hr (fun t ht hW => ⟨by rw [w_X4_partOf, if_pos c_1, if_neg c_2, if_neg c_3, if_neg c_4], ht⟩) (fun q h => absurd h List.not_mem_nil) dX4_partOf_51
        · refine lv_lload_n hx hb dX4_partOf_43 rfl (lv_at hl 1 rfl) ?_
          refine lv_goto (tgt := 48) hx hb dX4_partOf_44 (by decide) ?_
          refine lv_lload hx hb dX4_partOf_48 (lv_at hl 0 rfl) ?_
          refine lv_ldiv hx hb dX4_partOf_50 (cd_ne0 _ _) ?_
          exact W.lret (v := (some_ / (w_X4_commonDivisor some_ all_))) hx hb hr (fun t ht hW => ⟨by rw [w_X4_partOf, if_pos c_1, if_neg c_2, if_neg c_3, if_pos c_4], ht⟩) (fun q h => absurd h List.not_mem_nil) dX4_partOf_51
      · refine lv_iload hx hb dX4_partOf_27 (lv_at hl 2 rfl) ?_
        refine lv_i2l (v := (Int32.toInt64 part)) hx hb dX4_partOf_29 rfl ?_
        exact W.lret (v := (Int32.toInt64 part)) hx hb hr (fun t ht hW => ⟨by rw [w_X4_partOf, if_pos c_1, if_neg c_2, if_pos c_3], ht⟩) (fun q h => absurd h List.not_mem_nil) dX4_partOf_30
  · refine lv_iload hx hb dX4_partOf_5 (lv_at hl 2 rfl) ?_
    refine lv_iconst (v := 1) hx hb dX4_partOf_7 (by decide) ?_
    refine lv_icmp_eq (tgt := 15) hx hb dX4_partOf_8 (by decide) (fun c_5 => ?_) (fun c_5 => ?_)
    · refine lv_lload_n hx hb dX4_partOf_15 rfl (lv_at hl 0 rfl) ?_
      refine lv_lconst (v := 0) hx hb dX4_partOf_16 (by decide) ?_
      refine xl_eq (tgt := 27) hx hb dX4_partOf_17 dX4_partOf_18 (by decide) (fun c_6 => ?_) (fun c_6 => ?_)
      · refine lv_iload hx hb dX4_partOf_27 (lv_at hl 2 rfl) ?_
        refine lv_i2l (v := (Int32.toInt64 part)) hx hb dX4_partOf_29 rfl ?_
        exact W.lret (v := (Int32.toInt64 part)) hx hb hr (fun t ht hW => ⟨by rw [w_X4_partOf, if_neg c_1, if_pos c_5, if_pos c_6], ht⟩) (fun q h => absurd h List.not_mem_nil) dX4_partOf_30
      · refine lv_lload_n hx hb dX4_partOf_21 rfl (lv_at hl 1 rfl) ?_
        refine lv_lconst (v := 0) hx hb dX4_partOf_22 (by decide) ?_
        refine xl_ne (tgt := 31) hx hb dX4_partOf_23 dX4_partOf_24 (by decide) (fun c_7 => ?_) (fun c_7 => ?_)
        · refine lv_lload_n hx hb dX4_partOf_31 rfl (lv_at hl 0 rfl) ?_
          refine lv_lload_n hx hb dX4_partOf_32 rfl (lv_at hl 1 rfl) ?_
          refine rcS (n := 2) (As := [.long some_, .long all_]) (rest := []) hF (c_X4_commonDivisor l k  some_ all_ ) (hP.sub (ws' := []) [] rfl) hK uC_X4_commonDivisor uN_X4 uM_X4_225 uS_X4_commonDivisor (by decide +kernel) rfl ⟨Nat.le_of_ble_eq_true rfl, Nat.le_of_ble_eq_true rfl⟩ ⟨Nat.zero_le _, Nat.zero_le _⟩ hl.1 rfl (Nat.le_of_ble_eq_true rfl) dX4_partOf_33 ?_
          refine lv_lstore (lv' := [(5, .long (w_X4_commonDivisor some_ all_)), (0, .long some_), (2, .long all_), (4, .int part)]) hx hb dX4_partOf_36 hl (by decide) rfl (fun ls hl => ?_)
          refine lv_iload hx hb dX4_partOf_38 (lv_at hl 3 rfl) ?_
          refine lv_if_ne (tgt := 47) hx hb dX4_partOf_40 (by decide) (fun c_8 => ?_) (fun c_8 => ?_)
          · refine lv_lload_n hx hb dX4_partOf_47 rfl (lv_at hl 2 rfl) ?_
            refine lv_lload hx hb dX4_partOf_48 (lv_at hl 0 rfl) ?_
            refine lv_ldiv hx hb dX4_partOf_50 (cd_ne0 _ _) ?_
            exact W.lret (v := (all_ / (w_X4_commonDivisor some_ all_))) hx hb hr (fun t ht hW => ⟨by rw [w_X4_partOf, if_neg c_1, if_pos c_5, if_neg c_6, if_neg c_7, if_neg c_8], ht⟩) (fun q h => absurd h List.not_mem_nil) dX4_partOf_51
          · refine lv_lload_n hx hb dX4_partOf_43 rfl (lv_at hl 1 rfl) ?_
            refine lv_goto (tgt := 48) hx hb dX4_partOf_44 (by decide) ?_
            refine lv_lload hx hb dX4_partOf_48 (lv_at hl 0 rfl) ?_
            refine lv_ldiv hx hb dX4_partOf_50 (cd_ne0 _ _) ?_
            exact W.lret (v := (some_ / (w_X4_commonDivisor some_ all_))) hx hb hr (fun t ht hW => ⟨by rw [w_X4_partOf, if_neg c_1, if_pos c_5, if_neg c_6, if_neg c_7, if_pos c_8], ht⟩) (fun q h => absurd h List.not_mem_nil) dX4_partOf_51
        · refine lv_iload hx hb dX4_partOf_27 (lv_at hl 2 rfl) ?_
          refine lv_i2l (v := (Int32.toInt64 part)) hx hb dX4_partOf_29 rfl ?_
          exact W.lret (v := (Int32.toInt64 part)) hx hb hr (fun t ht hW => ⟨by rw [w_X4_partOf, if_neg c_1, if_pos c_5, if_neg c_6, if_pos c_7], ht⟩) (fun q h => absurd h List.not_mem_nil) dX4_partOf_30
    · refine lv_ldc2 hx hb hown (hU _ uK_X4_54) dX4_partOf_11 ?_
      exact W.lret (v := (-1)) hx hb hr (fun t ht hW => ⟨by rw [w_X4_partOf, if_neg c_1, if_neg c_5], ht⟩) (fun q h => absurd h List.not_mem_nil) dX4_partOf_14

def fcl (S : SeaT) (T : TalT) : Nat → Int32
  | 0 => 0
  | i + 1 => if w_X3_meetsGoal S T i = 0 then fcl S T i ||| (1 <<< (nI i &&& 31)) else fcl S T i
set_option maxHeartbeats 4000000 in
set_option maxRecDepth 100000 in
theorem c_X4_findClashes (l : Launch) (k : KT) (a : Nat → Nat) (S : SeaT) (T : TalT) (dr : Int64) (tr : Int64) (C : ChoT) (F : (Nat → Int32)) (G : GoT)  (n : Nat) (hn : n ≤ 24) (hc : S_cells S = nI n) : MW l yX4_findClashes cX4_findClashes 3 (some .int) (rz 4 94) k [.ref (a 0)] (xW k a S T dr tr C F G) (some (.int (fcl S (bgT S T n (w_X2_openSet S) n) 8))) (xW k a S (bgT S T n (w_X2_openSet S) n) dr tr C F G) := by
  intro sz
  refine Met.ofW (cc := cX4_findClashes) (maxL := 3) (ret := (some .int)) (by decide) rfl ?_
  intro p e s m args below meth c s₁ B hml hv
  obtain ⟨rfl, hsz, hP, hK, hD0⟩ := hv
  have hx := B.exec
  have hb := B.bytes
  have hr := B.returns
  have hU : ∀ w ∈ wsL_law, w.before [.ref (a 0)].toArray s = true := fun w h => atoms_spec (ws := Cond.code yX4_findClashes cX4_findClashes 3 (some .int) :: wsL_law) B.pre w (List.mem_cons_of_mem _ h)
  have hown : s.vm.findClass RX4 = some m.cls := findClass_of_methodNamed B.named
  have hlocks := B.notSynchronized
  have hF : CF p m c cX4_findClashes 3 s [.ref (a 0)].toArray RX4 := ⟨hx, hb, hml, hown, hU⟩
  subst hsz
  have hD := hD0.self (sz := s.heap.size)
  generalize hAe : va_A (xW k a S T dr tr C F G) s.heap.size = A at hD ⊢
  have hA : ∀ q : Nat, s.heap.size ≤ q → A q := fun q h => by rw [← hAe]; exact Or.inr h
  have hS : va_S A s.heap s.heap [] := va_S.rf
  have hl := lv_entry ([.ref (a 0)] : List Value) (n := 3) (Nat.le_of_ble_eq_true rfl)
  rw [lg_entry_eq]
  generalize (lg_sl ([.ref (a 0)] : List Value) ++ List.replicate (3 - (lg_sl ([.ref (a 0)] : List Value)).length) Slot.unset).toArray = ls at hl ⊢
  have hl : lv_has ls 3 [(0, .ref (a 0))] := hl
  refine lv_aload_n hx hb dX4_findClashes_0 rfl (lv_at hl 0 rfl) ?_
  refine va_get (D := k.1) (ci := 4) (v := .ref (a 11)) (C := RX4) (T := TX4) (N := 10) hx hb hU inlX4 hown hK.1 hP 0 rfl rfl 1 (by decide) (hU _ uF_X4_21) (fun _ h9 => h9) rfl dX4_findClashes_1 ?_
  refine lv_aload_n hx hb dX4_findClashes_4 rfl (lv_at hl 0 rfl) ?_
  refine va_get (D := k.1) (ci := 4) (v := .ref (a 1)) (C := RX4) (T := TX4) (N := 10) hx hb hU inlX4 hown hK.1 hP 0 rfl rfl 0 (by decide) (hU _ uF_X4_10) (fun _ h9 => h9) rfl dX4_findClashes_5 ?_
  refine rcVN (n := 0) (As := []) (rest := [.ref (a 11)]) hF (c_X2_openSet l k a S T dr tr C F G  ) (hP) hK 1 (ci := 2) rfl rfl rfl uC_X2_openSet uN_X2 nM_X4_229 uI_X2_openSet uE_X2_openSet (by decide +kernel) rfl ⟨Nat.le_of_ble_eq_true rfl, Nat.le_of_ble_eq_true rfl⟩ ⟨Nat.zero_le _, Nat.zero_le _⟩ hl.1 rfl (Nat.le_of_ble_eq_true rfl) dX4_findClashes_8 ?_
  refine wcVN (n := 1) (As := [.int (w_X2_openSet S)]) (rest := []) hF (c_X3_begin l k a S T dr tr C F G (w_X2_openSet S) n hn hc) hP hD hS hA hK 11 (ci := 3) rfl rfl rfl uC_X3_begin uN_X3 nM_X4_160 uI_X3_begin uE_X3_begin (by decide +kernel) rfl ⟨Nat.le_of_ble_eq_true rfl, Nat.le_of_ble_eq_true rfl⟩ ⟨Nat.zero_le _, Nat.zero_le _⟩ hl.1 rfl (Nat.le_of_ble_eq_true rfl) dX4_findClashes_11 (fun H locs hP hD hS => ?_)
  have hP : va_P k.1 vwCl (xW k a S (bgT S T n (w_X2_openSet S) n) dr tr C F G) H := hP
  have hD : va_D A (xW k a S (bgT S T n (w_X2_openSet S) n) dr tr C F G) := hD
  refine lv_iconst (v := 0) hx hb dX4_findClashes_14 (by decide) ?_
  refine lv_istore_n (lv' := [(1, .int 0), (0, .ref (a 0))]) hx hb dX4_findClashes_15 rfl hl (by decide) rfl (fun ls hl => ?_)
  refine lv_iconst (v := 0) hx hb dX4_findClashes_16 (by decide) ?_
  refine lv_istore_n (lv' := [(2, .int 0), (1, .int 0), (0, .ref (a 0))]) hx hb dX4_findClashes_17 rfl hl (by decide) rfl (fun ls hl => ?_)
  have loop_i : ∀ (ri i : Nat), i + ri * 1 = 8 → ∀ (ls : Array Slot) (H : Heap) (locs : List Loc) , lv_has ls 3 [(2, .int (nI i)), (1, .int (fcl S (bgT S T n (w_X2_openSet S) n) i)), (0, .ref (a 0))] → va_P k.1 vwCl (xW k a S (bgT S T n (w_X2_openSet S) n) dr tr C F G) H → va_D A (xW k a S (bgT S T n (w_X2_openSet S) n) dr tr C F G) → va_S A s.heap H locs → WW p l e s m below meth c yX4_findClashes cX4_findClashes 3 (some .int) (rz 4 94) [.ref (a 0)] (some (.int (fcl S (bgT S T n (w_X2_openSet S) n) 8))) k (xW k a S (bgT S T n (w_X2_openSet S) n) dr tr C F G) A H locs (F0 m 18 ls []) := by
    intro ri
    induction ri with
    | zero =>
      intro i hi_i ls H locs hl hP hD hS
      have he_i : 8 = i := by omega
      subst he_i
      refine lv_iload_n hx hb dX4_findClashes_18 rfl (lv_at hl 0 rfl) ?_
      refine lv_bipush (v := 8) hx hb dX4_findClashes_19 (by decide) ?_
      refine xb_ge (tgt := 47) hx hb dX4_findClashes_21 (by decide) (fun c_1 => ?_) (fun c9 => absurd c9 (nI_nlt (a := 8) (b := 8) (Nat.le_refl _) (by omega)))
      refine lv_iload_n hx hb dX4_findClashes_47 rfl (lv_at hl 1 rfl) ?_
      have hP9 : va_P k.1 vwCl (xW k a S (bgT S T n (w_X2_openSet S) n) dr tr C F G) H := hP
      have hD9 : va_D A (xW k a S (bgT S T n (w_X2_openSet S) n) dr tr C F G) := hD
      exact W.iret (v := (fcl S (bgT S T n (w_X2_openSet S) n) 8)) hx hb hr (fun t ht hW => ⟨⟨rfl, by rw [ht]; exact hP9, hD9⟩, hS.F ht⟩) hS.2.2 dX4_findClashes_48
    | succ ri ih_i =>
      intro i hi_i ls H locs hl hP hD hS
      have ht_i : i < 8 := by omega
      refine lv_iload_n hx hb dX4_findClashes_18 rfl (lv_at hl 0 rfl) ?_
      refine lv_bipush (v := 8) hx hb dX4_findClashes_19 (by decide) ?_
      refine xb_ge (tgt := 47) hx hb dX4_findClashes_21 (by decide) (fun c9 => absurd (nI_lt (a := i) (b := 8) (by omega) (by omega)) c9) (fun c_2 => ?_)
      refine lv_aload_n hx hb dX4_findClashes_24 rfl (lv_at hl 2 rfl) ?_
      refine va_get (D := k.1) (ci := 4) (v := .ref (a 11)) (C := RX4) (T := TX4) (N := 10) hx hb hU inlX4 hown hK.1 hP 0 rfl rfl 1 (by decide) (hU _ uF_X4_21) (fun _ h9 => h9) rfl dX4_findClashes_25 ?_
      refine lv_iload_n hx hb dX4_findClashes_28 rfl (lv_at hl 0 rfl) ?_
      refine rcVN (n := 1) (As := [.int (nI i)]) (rest := []) hF (c_X3_meetsGoal l k a S (bgT S T n (w_X2_openSet S) n) dr tr C F G (nI i) i (by omega) rfl) (hP) hK 11 (ci := 3) rfl rfl rfl uC_X3_meetsGoal uN_X3 nM_X4_232 uI_X3_meetsGoal uE_X3_meetsGoal (by decide +kernel) rfl ⟨Nat.le_of_ble_eq_true rfl, Nat.le_of_ble_eq_true rfl⟩ ⟨Nat.zero_le _, Nat.zero_le _⟩ hl.1 rfl (Nat.le_of_ble_eq_true rfl) dX4_findClashes_29 ?_
      refine lv_if_ne (tgt := 41) hx hb dX4_findClashes_32 (by decide) (fun c_3 => ?_) (fun c_3 => ?_)
      · refine lv_iinc (v := nI (i + 1)) (lv' := [(2, .int (nI (i + 1))), (1, .int (fcl S (bgT S T n (w_X2_openSet S) n) i)), (0, .ref (a 0))]) hx hb dX4_findClashes_41 hl (k := 0) rfl (nI_add i 1) (by decide) rfl (fun ls hl => ?_)
        refine lv_goto (tgt := 18) hx hb dX4_findClashes_44 (by decide) ?_
        have hq : (fcl S (bgT S T n (w_X2_openSet S) n) i) = fcl S (bgT S T n (w_X2_openSet S) n) (i + 1) := by rw [fcl, if_neg c_3]
        rw [hq] at hl
        exact ih_i (i + 1) (by omega) ls _ _ (lv_sub hl [0, 1, 2] rfl) hP hD hS
      · refine lv_iload_n hx hb dX4_findClashes_35 rfl (lv_at hl 1 rfl) ?_
        refine lv_iconst (v := 1) hx hb dX4_findClashes_36 (by decide) ?_
        refine lv_iload_n hx hb dX4_findClashes_37 rfl (lv_at hl 0 rfl) ?_
        refine lv_ishl hx hb dX4_findClashes_38 ?_
        refine lv_ior hx hb dX4_findClashes_39 ?_
        refine lv_istore_n (lv' := [(1, .int ((fcl S (bgT S T n (w_X2_openSet S) n) i) ||| (1 <<< ((nI i) &&& 31)))), (2, .int (nI i)), (0, .ref (a 0))]) hx hb dX4_findClashes_40 rfl hl (by decide) rfl (fun ls hl => ?_)
        refine lv_iinc (v := nI (i + 1)) (lv' := [(2, .int (nI (i + 1))), (1, .int ((fcl S (bgT S T n (w_X2_openSet S) n) i) ||| (1 <<< ((nI i) &&& 31)))), (0, .ref (a 0))]) hx hb dX4_findClashes_41 hl (k := 1) rfl (nI_add i 1) (by decide) rfl (fun ls hl => ?_)
        refine lv_goto (tgt := 18) hx hb dX4_findClashes_44 (by decide) ?_
        have hq : ((fcl S (bgT S T n (w_X2_openSet S) n) i) ||| (1 <<< ((nI i) &&& 31))) = fcl S (bgT S T n (w_X2_openSet S) n) (i + 1) := by rw [fcl, if_pos c_3]
        rw [hq] at hl
        exact ih_i (i + 1) (by omega) ls _ _ (lv_sub hl [0, 1, 2] rfl) hP hD hS
  exact loop_i 8 0 (by omega) ls _ _ (lv_sub hl [0, 1, 2] rfl) hP hD hS

set_option maxHeartbeats 4000000 in
set_option maxRecDepth 100000 in
theorem c_X4_listFreeCells (l : Launch) (k : KT) (a : Nat → Nat) (S : SeaT) (T : TalT) (dr : Int64) (tr : Int64) (C : ChoT) (F : (Nat → Int32)) (G : GoT)  (n : Nat) (hn : n ≤ 24) (hc : S_cells S = nI n) : MW l yX4_listFreeCells cX4_listFreeCells 4 (some .int) (rz 2 40) k [.ref (a 0)] (xW k a S T dr tr C F G) (some (.int (nI (cn (w_X2_freeSet S) n)))) (xW k a S T dr tr C (lfF (w_X2_freeSet S) F n) G) := by
  intro sz
  refine Met.ofW (cc := cX4_listFreeCells) (maxL := 4) (ret := (some .int)) (by decide) rfl ?_
  intro p e s m args below meth c s₁ B hml hv
  obtain ⟨rfl, hsz, hP, hK, hD0⟩ := hv
  have hx := B.exec
  have hb := B.bytes
  have hr := B.returns
  have hU : ∀ w ∈ wsL_law, w.before [.ref (a 0)].toArray s = true := fun w h => atoms_spec (ws := Cond.code yX4_listFreeCells cX4_listFreeCells 4 (some .int) :: wsL_law) B.pre w (List.mem_cons_of_mem _ h)
  have hown : s.vm.findClass RX4 = some m.cls := findClass_of_methodNamed B.named
  have hlocks := B.notSynchronized
  have hF : CF p m c cX4_listFreeCells 4 s [.ref (a 0)].toArray RX4 := ⟨hx, hb, hml, hown, hU⟩
  subst hsz
  have hD := hD0.self (sz := s.heap.size)
  generalize hAe : va_A (xW k a S T dr tr C F G) s.heap.size = A at hD ⊢
  have hA : ∀ q : Nat, s.heap.size ≤ q → A q := fun q h => by rw [← hAe]; exact Or.inr h
  have hS : va_S A s.heap s.heap [] := va_S.rf
  have hl := lv_entry ([.ref (a 0)] : List Value) (n := 4) (Nat.le_of_ble_eq_true rfl)
  rw [lg_entry_eq]
  generalize (lg_sl ([.ref (a 0)] : List Value) ++ List.replicate (4 - (lg_sl ([.ref (a 0)] : List Value)).length) Slot.unset).toArray = ls at hl ⊢
  have hl : lv_has ls 4 [(0, .ref (a 0))] := hl
  refine lv_aload_n hx hb dX4_listFreeCells_0 rfl (lv_at hl 0 rfl) ?_
  refine va_get (D := k.1) (ci := 4) (v := .ref (a 1)) (C := RX4) (T := TX4) (N := 10) hx hb hU inlX4 hown hK.1 hP 0 rfl rfl 0 (by decide) (hU _ uF_X4_10) (fun _ h9 => h9) rfl dX4_listFreeCells_1 ?_
  refine rcVN (n := 0) (As := []) (rest := []) hF (c_X2_freeSet l k a S T dr tr C F G  ) (hP) hK 1 (ci := 2) rfl rfl rfl uC_X2_freeSet uN_X2 nM_X4_139 uI_X2_freeSet uE_X2_freeSet (by decide +kernel) rfl ⟨Nat.le_of_ble_eq_true rfl, Nat.le_of_ble_eq_true rfl⟩ ⟨Nat.zero_le _, Nat.zero_le _⟩ hl.1 rfl (Nat.le_of_ble_eq_true rfl) dX4_listFreeCells_4 ?_
  refine lv_istore_n (lv' := [(1, .int (w_X2_freeSet S)), (0, .ref (a 0))]) hx hb dX4_listFreeCells_7 rfl hl (by decide) rfl (fun ls hl => ?_)
  refine lv_iconst (v := 0) hx hb dX4_listFreeCells_8 (by decide) ?_
  refine lv_istore_n (lv' := [(2, .int 0), (1, .int (w_X2_freeSet S)), (0, .ref (a 0))]) hx hb dX4_listFreeCells_9 rfl hl (by decide) rfl (fun ls hl => ?_)
  refine lv_iconst (v := 0) hx hb dX4_listFreeCells_10 (by decide) ?_
  refine lv_istore_n (lv' := [(3, .int 0), (2, .int 0), (1, .int (w_X2_freeSet S)), (0, .ref (a 0))]) hx hb dX4_listFreeCells_11 rfl hl (by decide) rfl (fun ls hl => ?_)
  have loop_i : ∀ (ri i : Nat), i + ri * 1 = n → ∀ (ls : Array Slot) (H : Heap) (locs : List Loc) , lv_has ls 4 [(3, .int (nI i)), (2, .int (nI (cn (w_X2_freeSet S) i))), (1, .int (w_X2_freeSet S)), (0, .ref (a 0))] → va_P k.1 vwCl (xW k a S T dr tr C (lfF (w_X2_freeSet S) F i) G) H → va_D A (xW k a S T dr tr C (lfF (w_X2_freeSet S) F i) G) → va_S A s.heap H locs → WW p l e s m below meth c yX4_listFreeCells cX4_listFreeCells 4 (some .int) (rz 2 40) [.ref (a 0)] (some (.int (nI (cn (w_X2_freeSet S) n)))) k (xW k a S T dr tr C (lfF (w_X2_freeSet S) F n) G) A H locs (F0 m 12 ls []) := by
    intro ri
    induction ri with
    | zero =>
      intro i hi_i ls H locs hl hP hD hS
      have he_i : n = i := by omega
      subst he_i
      refine lv_iload_n hx hb dX4_listFreeCells_12 rfl (lv_at hl 0 rfl) ?_
      refine lv_aload_n hx hb dX4_listFreeCells_13 rfl (lv_at hl 3 rfl) ?_
      refine va_get (D := k.1) (ci := 4) (v := .ref (a 1)) (C := RX4) (T := TX4) (N := 10) hx hb hU inlX4 hown hK.1 hP 0 rfl rfl 0 (by decide) (hU _ uF_X4_10) (fun _ h9 => h9) rfl dX4_listFreeCells_14 ?_
      refine va_getN (D := k.1) (ci := 2) (v := .int (S_cells S)) (C := RX2) (T := TX2) (N := 16) hx hb hU inlX2 hown hK.1 hP 1 rfl rfl 12 (by decide) (hK.nf nF_X4_60) (fun _ h9 => h9) rfl dX4_listFreeCells_17 ?_
      refine xb_ge (tgt := 47) hx hb dX4_listFreeCells_20 (by decide) (fun c_1 => ?_) (fun c9 => absurd c9 (by rw [hc]; exact nI_nlt (a := n) (b := n) (Nat.le_refl _) (by omega)))
      refine lv_iload_n hx hb dX4_listFreeCells_47 rfl (lv_at hl 1 rfl) ?_
      have hP9 : va_P k.1 vwCl (xW k a S T dr tr C (lfF (w_X2_freeSet S) F n) G) H := hP
      have hD9 : va_D A (xW k a S T dr tr C (lfF (w_X2_freeSet S) F n) G) := hD
      exact W.iret (v := (nI (cn (w_X2_freeSet S) n))) hx hb hr (fun t ht hW => ⟨⟨rfl, by rw [ht]; exact hP9, hD9⟩, hS.F ht⟩) hS.2.2 dX4_listFreeCells_48
    | succ ri ih_i =>
      intro i hi_i ls H locs hl hP hD hS
      have ht_i : i < n := by omega
      refine lv_iload_n hx hb dX4_listFreeCells_12 rfl (lv_at hl 0 rfl) ?_
      refine lv_aload_n hx hb dX4_listFreeCells_13 rfl (lv_at hl 3 rfl) ?_
      refine va_get (D := k.1) (ci := 4) (v := .ref (a 1)) (C := RX4) (T := TX4) (N := 10) hx hb hU inlX4 hown hK.1 hP 0 rfl rfl 0 (by decide) (hU _ uF_X4_10) (fun _ h9 => h9) rfl dX4_listFreeCells_14 ?_
      refine va_getN (D := k.1) (ci := 2) (v := .int (S_cells S)) (C := RX2) (T := TX2) (N := 16) hx hb hU inlX2 hown hK.1 hP 1 rfl rfl 12 (by decide) (hK.nf nF_X4_60) (fun _ h9 => h9) rfl dX4_listFreeCells_17 ?_
      refine xb_ge (tgt := 47) hx hb dX4_listFreeCells_20 (by decide) (fun c9 => absurd (by rw [hc]; exact nI_lt (a := i) (b := n) (by omega) (by omega)) c9) (fun c_2 => ?_)
      refine lv_iload_n hx hb dX4_listFreeCells_23 rfl (lv_at hl 2 rfl) ?_
      refine lv_iload_n hx hb dX4_listFreeCells_24 rfl (lv_at hl 0 rfl) ?_
      refine rcS (n := 2) (As := [.int (w_X2_freeSet S), .int (nI i)]) (rest := []) hF (c_X4_hasBit l k (w_X2_freeSet S) (nI i)) (hP.sub (ws' := []) [] rfl) hK uC_X4_hasBit uN_X4 uM_X4_120 uS_X4_hasBit (by decide +kernel) rfl ⟨Nat.le_of_ble_eq_true rfl, Nat.le_of_ble_eq_true rfl⟩ ⟨Nat.zero_le _, Nat.zero_le _⟩ hl.1 rfl (Nat.le_of_ble_eq_true rfl) dX4_listFreeCells_25 ?_
      refine lv_if_eq (tgt := 41) hx hb dX4_listFreeCells_28 (by decide) (fun c_3 => ?_) (fun c_3 => ?_)
      · refine lv_iinc (v := nI (i + 1)) (lv' := [(3, .int (nI (i + 1))), (2, .int (nI (cn (w_X2_freeSet S) i))), (1, .int (w_X2_freeSet S)), (0, .ref (a 0))]) hx hb dX4_listFreeCells_41 hl (k := 0) rfl (nI_add i 1) (by decide) rfl (fun ls hl => ?_)
        refine lv_goto (tgt := 12) hx hb dX4_listFreeCells_44 (by decide) ?_
        have eb : bt (w_X2_freeSet S) i = false := (hb0 (w_X2_freeSet S) (by omega)).mp c_3
        have hq : (nI (cn (w_X2_freeSet S) i)) = (nI (cn (w_X2_freeSet S) (i + 1))) := by rw [cn, if_neg (by rw [eb]; decide)]
        rw [hq] at hl
        have hq3 : (lfF (w_X2_freeSet S) F i) = (lfF (w_X2_freeSet S) F (i + 1)) := by rw [lfF, if_neg (by rw [eb]; decide)]
        rw [hq3] at hP hD
        exact ih_i (i + 1) (by omega) ls _ _ (lv_sub hl [0, 1, 2, 3] rfl) hP hD hS
      · refine lv_aload_n hx hb dX4_listFreeCells_31 rfl (lv_at hl 3 rfl) ?_
        refine va_get (D := k.1) (ci := 4) (v := .ref (a 17)) (C := RX4) (T := TX4) (N := 10) hx hb hU inlX4 hown hK.1 hP 0 rfl rfl 5 (by decide) (hU _ uF_X4_46) (fun _ h9 => h9) rfl dX4_listFreeCells_32 ?_
        refine lv_iload_n hx hb dX4_listFreeCells_35 rfl (lv_at hl 1 rfl) ?_
        refine lv_iload_n hx hb dX4_listFreeCells_36 rfl (lv_at hl 0 rfl) ?_
        refine xa_iast hx hb hK.1 hP hD hS 17 0 rfl rfl (j := (cn (w_X2_freeSet S) i)) rfl (Nat.lt_of_le_of_lt (cn_le (w_X2_freeSet S) i) (by omega)) (by decide) dX4_listFreeCells_37 (fun H locs hP hD hS => ?_)
        have hP := pz_x_17 k a S T dr tr C (lfF (w_X2_freeSet S) F i) G (upd (lfF (w_X2_freeSet S) F i) (cn (w_X2_freeSet S) i) (nI i)) hP
        have hD := dz_x_17 k a S T dr tr C (lfF (w_X2_freeSet S) F i) G (upd (lfF (w_X2_freeSet S) F i) (cn (w_X2_freeSet S) i) (nI i)) hD
        refine lv_iinc (v := nI ((cn (w_X2_freeSet S) i) + 1)) (lv' := [(2, .int (nI ((cn (w_X2_freeSet S) i) + 1))), (3, .int (nI i)), (1, .int (w_X2_freeSet S)), (0, .ref (a 0))]) hx hb dX4_listFreeCells_38 hl (k := 1) rfl (nI_add (cn (w_X2_freeSet S) i) 1) (by decide) rfl (fun ls hl => ?_)
        refine lv_iinc (v := nI (i + 1)) (lv' := [(3, .int (nI (i + 1))), (2, .int (nI ((cn (w_X2_freeSet S) i) + 1))), (1, .int (w_X2_freeSet S)), (0, .ref (a 0))]) hx hb dX4_listFreeCells_41 hl (k := 1) rfl (nI_add i 1) (by decide) rfl (fun ls hl => ?_)
        refine lv_goto (tgt := 12) hx hb dX4_listFreeCells_44 (by decide) ?_
        have eb : bt (w_X2_freeSet S) i = true := (hb1 (w_X2_freeSet S) (by omega)).mp c_3
        have hq : nI ((cn (w_X2_freeSet S) i) + 1) = (nI (cn (w_X2_freeSet S) (i + 1))) := by rw [cn, if_pos eb]
        rw [hq] at hl
        have hq3 : (upd (lfF (w_X2_freeSet S) F i) (cn (w_X2_freeSet S) i) (nI i)) = (lfF (w_X2_freeSet S) F (i + 1)) := by rw [lfF, if_pos eb]
        rw [hq3] at hP hD
        exact ih_i (i + 1) (by omega) ls _ _ (lv_sub hl [0, 1, 2, 3] rfl) hP hD hS
  exact loop_i n 0 (by omega) ls _ _ (lv_sub hl [0, 1, 2, 3] rfl) hP hD hS

def w_X4_considerTally_C (S : SeaT) (T : TalT) (C : ChoT) : ChoT := if (w_X0_isBeatenBy C (T_cells T) (w_X3_price S T)) = 0 then C else if (w_X3_stands S T) = 0 then C else (w_X0_take_C C (T_cells T) (w_X3_price S T))
set_option maxHeartbeats 4000000 in
set_option maxRecDepth 100000 in
theorem c_X4_considerTally (l : Launch) (k : KT) (a : Nat → Nat) (S : SeaT) (T : TalT) (dr : Int64) (tr : Int64) (C : ChoT) (F : (Nat → Int32)) (G : GoT)   : MW l yX4_considerTally cX4_considerTally 3 none (rz 3 62) k [.ref (a 0)] (xW k a S T dr tr C F G) none (xW k a S T dr tr (w_X4_considerTally_C S T C) F G) := by
  intro sz
  refine Met.ofW (cc := cX4_considerTally) (maxL := 3) (ret := none) (by decide) rfl ?_
  intro p e s m args below meth c s₁ B hml hv
  obtain ⟨rfl, hsz, hP, hK, hD0⟩ := hv
  have hx := B.exec
  have hb := B.bytes
  have hr := B.returns
  have hU : ∀ w ∈ wsL_law, w.before [.ref (a 0)].toArray s = true := fun w h => atoms_spec (ws := Cond.code yX4_considerTally cX4_considerTally 3 none :: wsL_law) B.pre w (List.mem_cons_of_mem _ h)
  have hown : s.vm.findClass RX4 = some m.cls := findClass_of_methodNamed B.named
  have hlocks := B.notSynchronized
  have hF : CF p m c cX4_considerTally 3 s [.ref (a 0)].toArray RX4 := ⟨hx, hb, hml, hown, hU⟩
  subst hsz
  have hD := hD0.self (sz := s.heap.size)
  generalize hAe : va_A (xW k a S T dr tr C F G) s.heap.size = A at hD ⊢
  have hA : ∀ q : Nat, s.heap.size ≤ q → A q := fun q h => by rw [← hAe]; exact Or.inr h
  have hS : va_S A s.heap s.heap [] := va_S.rf
  have hl := lv_entry ([.ref (a 0)] : List Value) (n := 3) (Nat.le_of_ble_eq_true rfl)
  rw [lg_entry_eq]
  generalize (lg_sl ([.ref (a 0)] : List Value) ++ List.replicate (3 - (lg_sl ([.ref (a 0)] : List Value)).length) Slot.unset).toArray = ls at hl ⊢
  have hl : lv_has ls 3 [(0, .ref (a 0))] := hl
  refine lv_aload_n hx hb dX4_considerTally_0 rfl (lv_at hl 0 rfl) ?_
  refine va_get (D := k.1) (ci := 4) (v := .ref (a 11)) (C := RX4) (T := TX4) (N := 10) hx hb hU inlX4 hown hK.1 hP 0 rfl rfl 1 (by decide) (hU _ uF_X4_21) (fun _ h9 => h9) rfl dX4_considerTally_1 ?_
  refine rcVN (n := 0) (As := []) (rest := []) hF (c_X3_price l k a S T dr tr C F G  ) (hP) hK 11 (ci := 3) rfl rfl rfl uC_X3_price uN_X3 nM_X4_181 uI_X3_price uE_X3_price (by decide +kernel) rfl ⟨Nat.le_of_ble_eq_true rfl, Nat.le_of_ble_eq_true rfl⟩ ⟨Nat.zero_le _, Nat.zero_le _⟩ hl.1 rfl (Nat.le_of_ble_eq_true rfl) dX4_considerTally_4 ?_
  refine lv_lstore_n (lv' := [(1, .long (w_X3_price S T)), (0, .ref (a 0))]) hx hb dX4_considerTally_7 rfl hl (by decide) rfl (fun ls hl => ?_)
  refine lv_aload_n hx hb dX4_considerTally_8 rfl (lv_at hl 1 rfl) ?_
  refine va_get (D := k.1) (ci := 4) (v := .ref (a 16)) (C := RX4) (T := TX4) (N := 10) hx hb hU inlX4 hown hK.1 hP 0 rfl rfl 4 (by decide) (hU _ uF_X4_42) (fun _ h9 => h9) rfl dX4_considerTally_9 ?_
  refine lv_aload_n hx hb dX4_considerTally_12 rfl (lv_at hl 1 rfl) ?_
  refine va_get (D := k.1) (ci := 4) (v := .ref (a 11)) (C := RX4) (T := TX4) (N := 10) hx hb hU inlX4 hown hK.1 hP 0 rfl rfl 1 (by decide) (hU _ uF_X4_21) (fun _ h9 => h9) rfl dX4_considerTally_13 ?_
  refine va_getN (D := k.1) (ci := 3) (v := .int (T_cells T)) (C := RX3) (T := TX3) (N := 7) hx hb hU inlX3 hown hK.1 hP 11 rfl rfl 3 (by decide) (hK.nf nF_X4_180) (fun _ h9 => h9) rfl dX4_considerTally_16 ?_
  refine lv_lload_n hx hb dX4_considerTally_19 rfl (lv_at hl 0 rfl) ?_
  refine rcVN (n := 2) (As := [.int (T_cells T), .long (w_X3_price S T)]) (rest := []) hF (c_X0_isBeatenBy l k a S T dr tr C F G (T_cells T) (w_X3_price S T) ) (hP) hK 16 (ci := 0) rfl rfl rfl uC_X0_isBeatenBy uN_X0 nM_X4_244 uI_X0_isBeatenBy uE_X0_isBeatenBy (by decide +kernel) rfl ⟨Nat.le_of_ble_eq_true rfl, Nat.le_of_ble_eq_true rfl⟩ ⟨Nat.zero_le _, Nat.zero_le _⟩ hl.1 rfl (Nat.le_of_ble_eq_true rfl) dX4_considerTally_20 ?_
  refine lv_if_eq (tgt := 51) hx hb dX4_considerTally_23 (by decide) (fun c_1 => ?_) (fun c_1 => ?_)
  · have hP9 : va_P k.1 vwCl (xW k a S T dr tr (w_X4_considerTally_C S T C) F G) s.heap := by rw [w_X4_considerTally_C, if_pos c_1]; exact hP
    have hD9 : va_D A (xW k a S T dr tr (w_X4_considerTally_C S T C) F G) := by rw [w_X4_considerTally_C, if_pos c_1]; exact hD
    exact W.vret hx hb hr (fun t ht hW => ⟨⟨rfl, by rw [ht]; exact hP9, hD9⟩, hS.F ht⟩) hS.2.2 dX4_considerTally_51
  · refine lv_aload_n hx hb dX4_considerTally_26 rfl (lv_at hl 1 rfl) ?_
    refine va_get (D := k.1) (ci := 4) (v := .ref (a 11)) (C := RX4) (T := TX4) (N := 10) hx hb hU inlX4 hown hK.1 hP 0 rfl rfl 1 (by decide) (hU _ uF_X4_21) (fun _ h9 => h9) rfl dX4_considerTally_27 ?_
    refine rcVN (n := 0) (As := []) (rest := []) hF (c_X3_stands l k a S T dr tr C F G  ) (hP) hK 11 (ci := 3) rfl rfl rfl uC_X3_stands uN_X3 nM_X4_248 uI_X3_stands uE_X3_stands (by decide +kernel) rfl ⟨Nat.le_of_ble_eq_true rfl, Nat.le_of_ble_eq_true rfl⟩ ⟨Nat.zero_le _, Nat.zero_le _⟩ hl.1 rfl (Nat.le_of_ble_eq_true rfl) dX4_considerTally_30 ?_
    refine lv_if_eq (tgt := 51) hx hb dX4_considerTally_33 (by decide) (fun c_2 => ?_) (fun c_2 => ?_)
    · have hP9 : va_P k.1 vwCl (xW k a S T dr tr (w_X4_considerTally_C S T C) F G) s.heap := by rw [w_X4_considerTally_C, if_neg c_1, if_pos c_2]; exact hP
      have hD9 : va_D A (xW k a S T dr tr (w_X4_considerTally_C S T C) F G) := by rw [w_X4_considerTally_C, if_neg c_1, if_pos c_2]; exact hD
      exact W.vret hx hb hr (fun t ht hW => ⟨⟨rfl, by rw [ht]; exact hP9, hD9⟩, hS.F ht⟩) hS.2.2 dX4_considerTally_51
    · refine lv_aload_n hx hb dX4_considerTally_36 rfl (lv_at hl 1 rfl) ?_
      refine va_get (D := k.1) (ci := 4) (v := .ref (a 16)) (C := RX4) (T := TX4) (N := 10) hx hb hU inlX4 hown hK.1 hP 0 rfl rfl 4 (by decide) (hU _ uF_X4_42) (fun _ h9 => h9) rfl dX4_considerTally_37 ?_
      refine lv_aload_n hx hb dX4_considerTally_40 rfl (lv_at hl 1 rfl) ?_
      refine va_get (D := k.1) (ci := 4) (v := .ref (a 11)) (C := RX4) (T := TX4) (N := 10) hx hb hU inlX4 hown hK.1 hP 0 rfl rfl 1 (by decide) (hU _ uF_X4_21) (fun _ h9 => h9) rfl dX4_considerTally_41 ?_
      refine va_getN (D := k.1) (ci := 3) (v := .int (T_cells T)) (C := RX3) (T := TX3) (N := 7) hx hb hU inlX3 hown hK.1 hP 11 rfl rfl 3 (by decide) (hK.nf nF_X4_180) (fun _ h9 => h9) rfl dX4_considerTally_44 ?_
      refine lv_lload_n hx hb dX4_considerTally_47 rfl (lv_at hl 0 rfl) ?_
      refine wcVN (n := 2) (As := [.int (T_cells T), .long (w_X3_price S T)]) (rest := []) hF (c_X0_take l k a S T dr tr C F G (T_cells T) (w_X3_price S T) ) hP hD hS hA hK 16 (ci := 0) rfl rfl rfl uC_X0_take uN_X0 nM_X4_184 uI_X0_take uE_X0_take (by decide +kernel) rfl ⟨Nat.le_of_ble_eq_true rfl, Nat.le_of_ble_eq_true rfl⟩ ⟨Nat.zero_le _, Nat.zero_le _⟩ hl.1 rfl (Nat.le_of_ble_eq_true rfl) dX4_considerTally_48 (fun H locs hP hD hS => ?_)
      have hP : va_P k.1 vwCl (xW k a S T dr tr (w_X0_take_C C (T_cells T) (w_X3_price S T)) F G) H := hP
      have hD : va_D A (xW k a S T dr tr (w_X0_take_C C (T_cells T) (w_X3_price S T)) F G) := hD
      have hP9 : va_P k.1 vwCl (xW k a S T dr tr (w_X4_considerTally_C S T C) F G) H := by rw [w_X4_considerTally_C, if_neg c_1, if_neg c_2]; exact hP
      have hD9 : va_D A (xW k a S T dr tr (w_X4_considerTally_C S T C) F G) := by rw [w_X4_considerTally_C, if_neg c_1, if_neg c_2]; exact hD
      exact W.vret hx hb hr (fun t ht hW => ⟨⟨rfl, by rw [ht]; exact hP9, hD9⟩, hS.F ht⟩) hS.2.2 dX4_considerTally_51
end
section
section F1
variable {p : Program} {l : Launch} {e : Env} {R : Room} {s : State} {m : MethodId} {args : Array Value} {below : List Frame} {meth : Method} {c : Code} {H : Heap} {locs : List Loc} {cells slots : Nat} {Q : State → Prop}
variable {y : MethodName} {bytes cc : ByteArray} {maxL nL n index fr lo pc : Nat} {ret : Option FieldType} {own C host : String} {b : Addr} {As rest st : List Value} {ls : Array Slot} {k : KT} {ws : va_W} {vo : Option Value} {A : Nat → Prop} {H0 : Heap}
/-- a write of a nest mate whose world is one cell of the caller's -/
theorem wc1 (S : CF p m c cc nL s args own) {e0 e1 : va_E} (hM : MW l y bytes maxL ret (rz fr lo) k (.ref b :: As) [(b, e0)] vo [(b, e1)]) (hP : va_P k.1 vwCl ws H) (hD : va_D A ws) (hS : va_S A H0 H locs) (hA : ∀ q, H0.size ≤ q → A q) (hK : KK k s) (q0 : Nat) {ci : Nat} {q : vw_C} {fs : List Value} (hc : vwCl[ci]? = some q) (he : ws[q0]? = some (b, e0)) (hy : e0 = .inr (ci, fs) ∧ q.1 = C) (hcode : Cond.code y bytes maxL ret ∈ wsL_law) (hini : Cond.initialized y.cls ∈ wsL_law) (hl : Cond.methodLinkNest own index y host ∈ nwL) (hi : Cond.instanceMethod y ∈ wsL_law) (hse : Cond.selects C y y ∈ wsL_law) (hd : DN y n) (hn : As.length = n) (hR : RM R fr lo maxL) (hf : cells ≤ R.cells ∧ slots ≤ R.slots) (hsz : ls.size = nL) (hst : st = As.reverse ++ .ref b :: rest) (hW : (rest.map fun v => v.category).sum ≤ 8) (hdg : decode cc pc = .ok (.invokevirtual index, 3))
    (kk : ∀ (H1 : Heap) (locs1 : List Loc), va_P k.1 vwCl (ws.set q0 (b, e1)) H1 → va_D A (ws.set q0 (b, e1)) → va_S A H0 H1 locs1 → W p l e R s m args below meth c H1 locs1 cells slots Q (F0 m (pc + 3) ls (vo.toList ++ rest))) : W p l e R s m args below meth c H locs cells slots Q (F0 m pc ls st) := by
  obtain ⟨hy0, hy⟩ := hy
  have hwc : ∀ (j : Nat) (x : Nat × va_E), ([(b, e0)] : va_W)[j]? = some x → x = (b, e0) := by
    intro j x hx
    cases j with
    | zero => exact (Option.some.inj hx).symm
    | succ j => cases hx
  have hPc : va_P k.1 vwCl [(b, e0)] H := fun j x hx => by rw [hwc j x hx]; exact hP q0 _ he
  have hDc : va_D A [(b, e0)] := by
    refine ⟨fun i j x z hx hz _ => ?_, fun j x hx => by rw [hwc j x hx]; exact hD.2 q0 _ he⟩
    have h1 := (List.getElem?_eq_some_iff.mp hx).1
    have h2 := (List.getElem?_eq_some_iff.mp hz).1
    simp at h1 h2
    omega
  have hF : ∀ q, va_A [(b, e0)] H.size q → A q := fA hDc hS hA
  have he' : ws[q0]? = some (b, .inr (ci, fs)) := by rw [he, hy0]
  refine W.callWr (va_runVN S (hM H.size) ⟨cN S hK hcode hini hl hd hR, S.2.2.2.2 _ hi, S.2.2.2.2 _ hse⟩ ⟨wB.blind, hy ▸ va_recv hK.1 hP hc he', wB.at hPc hK hDc⟩ rfl hn hsz hst (lv_room hW) hdg hf) hS (fun q _ h => hF q h) hF (fun H1 locs1 h1 h2 h3 h4 => ?_)
  refine kk H1 locs1 (fun j x hx => ?_) (hD.set he) h4
  have hq0 := (List.getElem?_eq_some_iff.mp he).1
  by_cases hj : j = q0
  · subst hj
    rw [List.getElem?_set_self hq0] at hx
    cases hx
    exact h1 0 _ rfl
  · rw [List.getElem?_set_ne (Ne.symm hj)] at hx
    have h5 := hP j x hx
    refine h5.kept (h3 x.1 h5.lt ?_)
    rintro (⟨i, e9, h9⟩ | h9)
    · have h10 : x.1 = b := congrArg Prod.fst (hwc i _ h9)
      exact hj (hD.1 j q0 x (b, e0) hx he h10)
    · exact absurd h5.lt (Nat.not_lt.mpr h9)
end F1

/-- Gray's order: the place that changes at step i -/
def plN (i : Nat) : Nat := (w_bitCount (((nI i) &&& (-(nI i))) - 1)).toNatClampNeg
theorem pl_eq (i : Nat) : w_bitCount (((nI i) &&& (-(nI i))) - 1) = nI (plN i) := by
  obtain ⟨j, hj, e⟩ := bc_nat (((nI i) &&& (-(nI i))) - 1)
  unfold plN
  rw [e, nI_clamp (by omega)]
theorem pl_lt (i : Nat) : plN i < 64 := by
  obtain ⟨j, hj, e⟩ := bc_nat (((nI i) &&& (-(nI i))) - 1)
  unfold plN
  rw [e, nI_clamp (by omega)]
  exact hj
def srs (S : SeaT) (n : Nat) (y : TalT × ChoT) (i : Nat) : TalT × ChoT :=
  if plN i < cn (w_X2_freeSet S) n then (ex_T S y.1 n (fcN (w_X2_freeSet S) n (plN i)), w_X4_considerTally_C S (ex_T S y.1 n (fcN (w_X2_freeSet S) n (plN i))) y.2) else y
def sr (S : SeaT) (n : Nat) (x : TalT × ChoT) : Nat → TalT × ChoT
  | 0 => x
  | i + 1 => if i = 0 then x else srs S n (sr S n x i) i
def sr0 (S : SeaT) (T : TalT) (C : ChoT) (n : Nat) : TalT × ChoT := (bgT S T n (S_needed S) n, w_X4_considerTally_C S (bgT S T n (S_needed S) n) C)

set_option maxHeartbeats 4000000 in
set_option maxRecDepth 100000 in
theorem c_X4_search (l : Launch) (k : KT) (a : Nat → Nat) (S : SeaT) (T : TalT) (dr : Int64) (tr : Int64) (C : ChoT) (F : (Nat → Int32)) (G : GoT)  (n : Nat) (hn : n ≤ 24) (hc : S_cells S = nI n) (hm : cn (w_X2_freeSet S) n ≤ 12) : MW l yX4_search cX4_search 5 none (rz 4 94) k [.ref (a 0)] (xW k a S T dr tr C F G) none (xW k a S (sr S n (sr0 S T C n) (2 ^ cn (w_X2_freeSet S) n)).1 dr tr (sr S n (sr0 S T C n) (2 ^ cn (w_X2_freeSet S) n)).2 (lfF (w_X2_freeSet S) F n) G) := by
  intro sz
  refine Met.ofW (cc := cX4_search) (maxL := 5) (ret := none) (by decide) rfl ?_
  intro p e s m args below meth c s₁ B hml hv
  obtain ⟨rfl, hsz, hP, hK, hD0⟩ := hv
  have hx := B.exec
  have hb := B.bytes
  have hr := B.returns
  have hU : ∀ w ∈ wsL_law, w.before [.ref (a 0)].toArray s = true := fun w h => atoms_spec (ws := Cond.code yX4_search cX4_search 5 none :: wsL_law) B.pre w (List.mem_cons_of_mem _ h)
  have hown : s.vm.findClass RX4 = some m.cls := findClass_of_methodNamed B.named
  have hlocks := B.notSynchronized
  have hF : CF p m c cX4_search 5 s [.ref (a 0)].toArray RX4 := ⟨hx, hb, hml, hown, hU⟩
  subst hsz
  have hD := hD0.self (sz := s.heap.size)
  generalize hAe : va_A (xW k a S T dr tr C F G) s.heap.size = A at hD ⊢
  have hA : ∀ q : Nat, s.heap.size ≤ q → A q := fun q h => by rw [← hAe]; exact Or.inr h
  have hS : va_S A s.heap s.heap [] := va_S.rf
  have hl := lv_entry ([.ref (a 0)] : List Value) (n := 5) (Nat.le_of_ble_eq_true rfl)
  rw [lg_entry_eq]
  generalize (lg_sl ([.ref (a 0)] : List Value) ++ List.replicate (5 - (lg_sl ([.ref (a 0)] : List Value)).length) Slot.unset).toArray = ls at hl ⊢
  have hl : lv_has ls 5 [(0, .ref (a 0))] := hl
  obtain ⟨wy, hwy⟩ : ∃ wy : Nat, wy = (2 ^ cn (w_X2_freeSet S) n) := ⟨_, rfl⟩
  have hwl : wy ≤ 4096 := by rw [hwy]; exact m2_pos hm
  have hw1 : 1 ≤ wy := by rw [hwy]; exact Nat.one_le_two_pow
  refine lv_aload_n hx hb dX4_search_0 rfl (lv_at hl 0 rfl) ?_
  refine wcV (n := 0) (As := []) (rest := []) hF (c_X4_listFreeCells l k a S T dr tr C F G  n hn hc) hP hD hS hA hK 0 (ci := 4) rfl rfl rfl uC_X4_listFreeCells uN_X4 uM_X4_235 uI_X4_listFreeCells uE_X4_listFreeCells (by decide +kernel) rfl ⟨Nat.le_of_ble_eq_true rfl, Nat.le_of_ble_eq_true rfl⟩ ⟨Nat.zero_le _, Nat.zero_le _⟩ hl.1 rfl (Nat.le_of_ble_eq_true rfl) dX4_search_1 (fun H locs hP hD hS => ?_)
  have hP : va_P k.1 vwCl (xW k a S T dr tr C (lfF (w_X2_freeSet S) F n) G) H := hP
  have hD : va_D A (xW k a S T dr tr C (lfF (w_X2_freeSet S) F n) G) := hD
  refine lv_istore_n (lv' := [(1, .int (nI (cn (w_X2_freeSet S) n))), (0, .ref (a 0))]) hx hb dX4_search_4 rfl hl (by decide) rfl (fun ls hl => ?_)
  refine lv_iconst (v := 1) hx hb dX4_search_5 (by decide) ?_
  refine lv_iload_n hx hb dX4_search_6 rfl (lv_at hl 0 rfl) ?_
  refine lv_ishl hx hb dX4_search_7 ?_
  refine W.eq (g2 := F0 m 8 ls [.int (nI wy)]) (by rw [hwy, ← shl_nI _ (by omega)]; try rfl) ?_
  refine lv_istore_n (lv' := [(2, .int (nI wy)), (1, .int (nI (cn (w_X2_freeSet S) n))), (0, .ref (a 0))]) hx hb dX4_search_8 rfl hl (by decide) rfl (fun ls hl => ?_)
  refine lv_aload_n hx hb dX4_search_9 rfl (lv_at hl 2 rfl) ?_
  refine va_get (D := k.1) (ci := 4) (v := .ref (a 11)) (C := RX4) (T := TX4) (N := 10) hx hb hU inlX4 hown hK.1 hP 0 rfl rfl 1 (by decide) (hU _ uF_X4_21) (fun _ h9 => h9) rfl dX4_search_10 ?_
  refine lv_aload_n hx hb dX4_search_13 rfl (lv_at hl 2 rfl) ?_
  refine va_get (D := k.1) (ci := 4) (v := .ref (a 1)) (C := RX4) (T := TX4) (N := 10) hx hb hU inlX4 hown hK.1 hP 0 rfl rfl 0 (by decide) (hU _ uF_X4_10) (fun _ h9 => h9) rfl dX4_search_14 ?_
  refine va_getN (D := k.1) (ci := 2) (v := .int (S_needed S)) (C := RX2) (T := TX2) (N := 16) hx hb hU inlX2 hown hK.1 hP 1 rfl rfl 13 (by decide) (hK.nf nF_X4_109) (fun _ h9 => h9) rfl dX4_search_17 ?_
  refine wcVN (n := 1) (As := [.int (S_needed S)]) (rest := []) hF (c_X3_begin l k a S T dr tr C (lfF (w_X2_freeSet S) F n) G (S_needed S) n hn hc) hP hD hS hA hK 11 (ci := 3) rfl rfl rfl uC_X3_begin uN_X3 nM_X4_160 uI_X3_begin uE_X3_begin (by decide +kernel) rfl ⟨Nat.le_of_ble_eq_true rfl, Nat.le_of_ble_eq_true rfl⟩ ⟨Nat.zero_le _, Nat.zero_le _⟩ hl.1 rfl (Nat.le_of_ble_eq_true rfl) dX4_search_20 (fun H locs hP hD hS => ?_)
  have hP : va_P k.1 vwCl (xW k a S (bgT S T n (S_needed S) n) dr tr C (lfF (w_X2_freeSet S) F n) G) H := hP
  have hD : va_D A (xW k a S (bgT S T n (S_needed S) n) dr tr C (lfF (w_X2_freeSet S) F n) G) := hD
  refine lv_aload_n hx hb dX4_search_23 rfl (lv_at hl 2 rfl) ?_
  refine wcV (n := 0) (As := []) (rest := []) hF (c_X4_considerTally l k a S (bgT S T n (S_needed S) n) dr tr C (lfF (w_X2_freeSet S) F n) G  ) hP hD hS hA hK 0 (ci := 4) rfl rfl rfl uC_X4_considerTally uN_X4 uM_X4_238 uI_X4_considerTally uE_X4_considerTally (by decide +kernel) rfl ⟨Nat.le_of_ble_eq_true rfl, Nat.le_of_ble_eq_true rfl⟩ ⟨Nat.zero_le _, Nat.zero_le _⟩ hl.1 rfl (Nat.le_of_ble_eq_true rfl) dX4_search_24 (fun H locs hP hD hS => ?_)
  have hP : va_P k.1 vwCl (xW k a S (bgT S T n (S_needed S) n) dr tr (w_X4_considerTally_C S (bgT S T n (S_needed S) n) C) (lfF (w_X2_freeSet S) F n) G) H := hP
  have hD : va_D A (xW k a S (bgT S T n (S_needed S) n) dr tr (w_X4_considerTally_C S (bgT S T n (S_needed S) n) C) (lfF (w_X2_freeSet S) F n) G) := hD
  refine lv_iconst (v := 1) hx hb dX4_search_27 (by decide) ?_
  refine lv_istore_n (lv' := [(3, .int 1), (2, .int (nI wy)), (1, .int (nI (cn (w_X2_freeSet S) n))), (0, .ref (a 0))]) hx hb dX4_search_28 rfl hl (by decide) rfl (fun ls hl => ?_)
  have loop_i : ∀ (ri i : Nat), i + ri * 1 = wy → ∀ (ls : Array Slot) (H : Heap) (locs : List Loc) , lv_has ls 5 [(3, .int (nI i)), (2, .int (nI wy)), (1, .int (nI (cn (w_X2_freeSet S) n))), (0, .ref (a 0))] → va_P k.1 vwCl (xW k a S (sr S n (sr0 S T C n) i).1 dr tr (sr S n (sr0 S T C n) i).2 (lfF (w_X2_freeSet S) F n) G) H → va_D A (xW k a S (sr S n (sr0 S T C n) i).1 dr tr (sr S n (sr0 S T C n) i).2 (lfF (w_X2_freeSet S) F n) G) → va_S A s.heap H locs → 1 ≤ i → WW p l e s m below meth c yX4_search cX4_search 5 none (rz 4 94) [.ref (a 0)] none k (xW k a S (sr S n (sr0 S T C n) (2 ^ cn (w_X2_freeSet S) n)).1 dr tr (sr S n (sr0 S T C n) (2 ^ cn (w_X2_freeSet S) n)).2 (lfF (w_X2_freeSet S) F n) G) A H locs (F0 m 29 ls []) := by
    intro ri
    induction ri with
    | zero =>
      intro i hi_i ls H locs hl hP hD hS hv_i
      have he_i : wy = i := by omega
      subst he_i
      refine lv_iload_n hx hb dX4_search_29 rfl (lv_at hl 0 rfl) ?_
      refine lv_iload_n hx hb dX4_search_30 rfl (lv_at hl 1 rfl) ?_
      refine xb_ge (tgt := 75) hx hb dX4_search_31 (by decide) (fun c_1 => ?_) (fun c9 => absurd c9 (nI_nlt (a := wy) (b := wy) (Nat.le_refl _) (by omega)))
      have hP9 : va_P k.1 vwCl (xW k a S (sr S n (sr0 S T C n) (2 ^ cn (w_X2_freeSet S) n)).1 dr tr (sr S n (sr0 S T C n) (2 ^ cn (w_X2_freeSet S) n)).2 (lfF (w_X2_freeSet S) F n) G) H := by rw [← hwy]; exact hP
      have hD9 : va_D A (xW k a S (sr S n (sr0 S T C n) (2 ^ cn (w_X2_freeSet S) n)).1 dr tr (sr S n (sr0 S T C n) (2 ^ cn (w_X2_freeSet S) n)).2 (lfF (w_X2_freeSet S) F n) G) := by rw [← hwy]; exact hD
      exact W.vret hx hb hr (fun t ht hW => ⟨⟨rfl, by rw [ht]; exact hP9, hD9⟩, hS.F ht⟩) hS.2.2 dX4_search_75
    | succ ri ih_i =>
      intro i hi_i ls H locs hl hP hD hS hv_i
      have ht_i : i < wy := by omega
      refine lv_iload_n hx hb dX4_search_29 rfl (lv_at hl 0 rfl) ?_
      refine lv_iload_n hx hb dX4_search_30 rfl (lv_at hl 1 rfl) ?_
      refine xb_ge (tgt := 75) hx hb dX4_search_31 (by decide) (fun c9 => absurd (nI_lt (a := i) (b := wy) (by omega) (by omega)) c9) (fun c_2 => ?_)
      refine lv_iload_n hx hb dX4_search_34 rfl (lv_at hl 0 rfl) ?_
      refine lv_iload_n hx hb dX4_search_35 rfl (lv_at hl 0 rfl) ?_
      refine lv_ineg hx hb dX4_search_36 ?_
      refine lv_iand hx hb dX4_search_37 ?_
      refine lv_iconst (v := 1) hx hb dX4_search_38 (by decide) ?_
      refine lv_isub hx hb dX4_search_39 ?_
      refine rcS (n := 1) (As := [.int (((nI i) &&& (-(nI i))) - 1)]) (rest := []) hF (c_J6_bitCount_0f7a4 l k (((nI i) &&& (-(nI i))) - 1)) (hP.sub (ws' := []) [] rfl) hK uC_J6_bitCount_0f7a4 uN_J6 uM_X4_142 uS_J6_bitCount_0f7a4 (by decide +kernel) rfl ⟨Nat.le_of_ble_eq_true rfl, Nat.le_of_ble_eq_true rfl⟩ ⟨Nat.zero_le _, Nat.zero_le _⟩ hl.1 rfl (Nat.le_of_ble_eq_true rfl) dX4_search_40 ?_
      refine W.eq (g2 := F0 m 43 ls [.int (nI (plN i))]) (by rw [pl_eq]; try rfl) ?_
      refine lv_istore (lv' := [(4, .int (nI (plN i))), (3, .int (nI i)), (2, .int (nI wy)), (1, .int (nI (cn (w_X2_freeSet S) n))), (0, .ref (a 0))]) hx hb dX4_search_43 hl (by decide) rfl (fun ls hl => ?_)
      refine lv_iload hx hb dX4_search_45 (lv_at hl 0 rfl) ?_
      refine lv_iload_n hx hb dX4_search_47 rfl (lv_at hl 3 rfl) ?_
      refine xb_ge (tgt := 69) hx hb dX4_search_48 (by decide) (fun c_3 => ?_) (fun c_3 => ?_)
      · refine lv_iinc (v := nI (i + 1)) (lv' := [(3, .int (nI (i + 1))), (4, .int (nI (plN i))), (2, .int (nI wy)), (1, .int (nI (cn (w_X2_freeSet S) n))), (0, .ref (a 0))]) hx hb dX4_search_69 hl (k := 1) rfl (nI_add i 1) (by decide) rfl (fun ls hl => ?_)
        refine lv_goto (tgt := 29) hx hb dX4_search_72 (by decide) ?_
        have hpl : ¬ plN i < cn (w_X2_freeSet S) n := fun h => c_3 (nI_lt h (by omega))
        have hq2 : (sr S n (sr0 S T C n) i).2 = (sr S n (sr0 S T C n) (i + 1)).2 := by rw [sr, if_neg (by omega), srs, if_neg hpl]
        rw [hq2] at hP hD
        have hq1 : (sr S n (sr0 S T C n) i).1 = (sr S n (sr0 S T C n) (i + 1)).1 := by rw [sr, if_neg (by omega), srs, if_neg hpl]
        rw [hq1] at hP hD
        exact ih_i (i + 1) (by omega) ls _ _ (lv_sub hl [0, 2, 3, 4] rfl) hP hD hS (by omega)
      · have hpl : plN i < cn (w_X2_freeSet S) n := (nI_ltI (by have := pl_lt i; omega) (by omega)).mp c_3
        refine lv_aload_n hx hb dX4_search_51 rfl (lv_at hl 4 rfl) ?_
        refine va_get (D := k.1) (ci := 4) (v := .ref (a 11)) (C := RX4) (T := TX4) (N := 10) hx hb hU inlX4 hown hK.1 hP 0 rfl rfl 1 (by decide) (hU _ uF_X4_21) (fun _ h9 => h9) rfl dX4_search_52 ?_
        refine lv_aload_n hx hb dX4_search_55 rfl (lv_at hl 4 rfl) ?_
        refine va_get (D := k.1) (ci := 4) (v := .ref (a 17)) (C := RX4) (T := TX4) (N := 10) hx hb hU inlX4 hown hK.1 hP 0 rfl rfl 5 (by decide) (hU _ uF_X4_46) (fun _ h9 => h9) rfl dX4_search_56 ?_
        refine lv_iload hx hb dX4_search_59 (lv_at hl 0 rfl) ?_
        refine xa_iald hx hb hK.1 hP 17 0 rfl rfl (j := (plN i)) rfl (by omega) (by decide) dX4_search_61 ?_
        have hfc : fcN (w_X2_freeSet S) n (plN i) < n := fcN_lt _ hpl
        refine W.eq (g2 := F0 m 62 ls [.int (nI (fcN (w_X2_freeSet S) n (plN i))), .ref (a 11)]) (by rw [lfF_at _ _ hpl]; try rfl) ?_
        refine wcVN (n := 1) (As := [.int (nI (fcN (w_X2_freeSet S) n (plN i)))]) (rest := []) hF (c_X3_exchange l k a S (sr S n (sr0 S T C n) i).1 dr tr (sr S n (sr0 S T C n) i).2 (lfF (w_X2_freeSet S) F n) G (fcN (w_X2_freeSet S) n (plN i)) n hn hc (by omega)) hP hD hS hA hK 11 (ci := 3) rfl rfl rfl uC_X3_exchange uN_X3 nM_X4_241 uI_X3_exchange uE_X3_exchange (by decide +kernel) rfl ⟨Nat.le_of_ble_eq_true rfl, Nat.le_of_ble_eq_true rfl⟩ ⟨Nat.zero_le _, Nat.zero_le _⟩ hl.1 rfl (Nat.le_of_ble_eq_true rfl) dX4_search_62 (fun H locs hP hD hS => ?_)
        have hP : va_P k.1 vwCl (xW k a S (ex_T S (sr S n (sr0 S T C n) i).1 n (fcN (w_X2_freeSet S) n (plN i))) dr tr (sr S n (sr0 S T C n) i).2 (lfF (w_X2_freeSet S) F n) G) H := hP
        have hD : va_D A (xW k a S (ex_T S (sr S n (sr0 S T C n) i).1 n (fcN (w_X2_freeSet S) n (plN i))) dr tr (sr S n (sr0 S T C n) i).2 (lfF (w_X2_freeSet S) F n) G) := hD
        refine lv_aload_n hx hb dX4_search_65 rfl (lv_at hl 4 rfl) ?_
        refine wcV (n := 0) (As := []) (rest := []) hF (c_X4_considerTally l k a S (ex_T S (sr S n (sr0 S T C n) i).1 n (fcN (w_X2_freeSet S) n (plN i))) dr tr (sr S n (sr0 S T C n) i).2 (lfF (w_X2_freeSet S) F n) G  ) hP hD hS hA hK 0 (ci := 4) rfl rfl rfl uC_X4_considerTally uN_X4 uM_X4_238 uI_X4_considerTally uE_X4_considerTally (by decide +kernel) rfl ⟨Nat.le_of_ble_eq_true rfl, Nat.le_of_ble_eq_true rfl⟩ ⟨Nat.zero_le _, Nat.zero_le _⟩ hl.1 rfl (Nat.le_of_ble_eq_true rfl) dX4_search_66 (fun H locs hP hD hS => ?_)
        have hP : va_P k.1 vwCl (xW k a S (ex_T S (sr S n (sr0 S T C n) i).1 n (fcN (w_X2_freeSet S) n (plN i))) dr tr (w_X4_considerTally_C S (ex_T S (sr S n (sr0 S T C n) i).1 n (fcN (w_X2_freeSet S) n (plN i))) (sr S n (sr0 S T C n) i).2) (lfF (w_X2_freeSet S) F n) G) H := hP
        have hD : va_D A (xW k a S (ex_T S (sr S n (sr0 S T C n) i).1 n (fcN (w_X2_freeSet S) n (plN i))) dr tr (w_X4_considerTally_C S (ex_T S (sr S n (sr0 S T C n) i).1 n (fcN (w_X2_freeSet S) n (plN i))) (sr S n (sr0 S T C n) i).2) (lfF (w_X2_freeSet S) F n) G) := hD
        refine lv_iinc (v := nI (i + 1)) (lv' := [(3, .int (nI (i + 1))), (4, .int (nI (plN i))), (2, .int (nI wy)), (1, .int (nI (cn (w_X2_freeSet S) n))), (0, .ref (a 0))]) hx hb dX4_search_69 hl (k := 1) rfl (nI_add i 1) (by decide) rfl (fun ls hl => ?_)
        refine lv_goto (tgt := 29) hx hb dX4_search_72 (by decide) ?_
        have hq2 : (w_X4_considerTally_C S (ex_T S (sr S n (sr0 S T C n) i).1 n (fcN (w_X2_freeSet S) n (plN i))) (sr S n (sr0 S T C n) i).2) = (sr S n (sr0 S T C n) (i + 1)).2 := by rw [sr, if_neg (by omega), srs, if_pos hpl]
        rw [hq2] at hP hD
        have hq1 : (ex_T S (sr S n (sr0 S T C n) i).1 n (fcN (w_X2_freeSet S) n (plN i))) = (sr S n (sr0 S T C n) (i + 1)).1 := by rw [sr, if_neg (by omega), srs, if_pos hpl]
        rw [hq1] at hP hD
        exact ih_i (i + 1) (by omega) ls _ _ (lv_sub hl [0, 2, 3, 4] rfl) hP hD hS (by omega)
  exact loop_i ((wy - 1) / 1) 1 (by omega) ls _ _ (lv_sub hl [0, 1, 2, 3] rfl) hP hD hS (Nat.le_refl 1)

/-- the cell that a drawn number names -/
def djN (n : Nat) (x : Int64) : Nat := (Int64.toInt32 (w_X1_next x - w_X1_next x / Int32.toInt64 (nI n) * Int32.toInt64 (nI n))).toNatClampNeg
theorem dj_spec {n : Nat} (h0 : 0 < n) (hn : n ≤ 24) (x : Int64) : Int64.toInt32 (w_X1_next x - w_X1_next x / Int32.toInt64 (nI n) * Int32.toInt64 (nI n)) = nI (djN n x) ∧ djN n x < n := by
  obtain ⟨j, hj, e⟩ := lrem_nI (v := w_X1_next x) h0 (by omega) (by unfold w_X1_next; exact lu1_nonneg _)
  unfold djN
  rw [e, nI_clamp (by omega)]
  exact ⟨rfl, hj⟩
abbrev DmT : Type := TalT × Int64 × Nat × Int64
def dms (S : SeaT) (n : Nat) (y : DmT) : DmT :=
  if w_X3_price S (ex_T S y.1 n (djN n y.2.1)) < y.2.2.2 then
    (if w_X3_stands S (ex_T S y.1 n (djN n y.2.1)) = 0 then (ex_T S (ex_T S y.1 n (djN n y.2.1)) n (djN n y.2.1), w_X1_next_dr y.2.1, y.2.2.1, y.2.2.2)
     else (ex_T S y.1 n (djN n y.2.1), w_X1_next_dr y.2.1, y.2.2.1 + 1, w_X3_price S (ex_T S y.1 n (djN n y.2.1))))
  else (ex_T S (ex_T S y.1 n (djN n y.2.1)) n (djN n y.2.1), w_X1_next_dr y.2.1, y.2.2.1, y.2.2.2)
def dm (S : SeaT) (n : Nat) (x : DmT) : Nat → DmT
  | 0 => x
  | i + 1 => dms S n (dm S n x i)
def dm0 (S : SeaT) (T : TalT) (n : Nat) (x : Int64) : DmT := (bgT S T n (w_X2_openSet S) n, x, 0, w_X3_price S (bgT S T n (w_X2_openSet S) n))
def dm_ok (S : SeaT) (T : TalT) (n : Nat) : Prop := ¬ S_cells S = 0 ∧ ¬ w_X3_stands S (bgT S T n (w_X2_openSet S) n) = 0

def w_dm_dr (S : SeaT) (T : TalT) (dr : Int64) (n N : Nat) : Int32 := if S_cells S = 0 then (-1) else if w_X3_stands S (bgT S T n (w_X2_openSet S) n) = 0 then (-1) else nI (dm S n (dm0 S T n dr) N).2.2.1
def w_dmT_dr (S : SeaT) (T : TalT) (dr : Int64) (n N : Nat) : TalT := if S_cells S = 0 then bgT S T n (w_X2_openSet S) n else if w_X3_stands S (bgT S T n (w_X2_openSet S) n) = 0 then bgT S T n (w_X2_openSet S) n else (dm S n (dm0 S T n dr) N).1
def w_dmx_dr (S : SeaT) (T : TalT) (dr : Int64) (n N : Nat) : Int64 := if S_cells S = 0 then dr else if w_X3_stands S (bgT S T n (w_X2_openSet S) n) = 0 then dr else (dm S n (dm0 S T n dr) N).2.1

set_option maxHeartbeats 4000000 in
set_option maxRecDepth 100000 in
theorem c_X4_drawnMoves_dr (l : Launch) (k : KT) (a : Nat → Nat) (S : SeaT) (T : TalT) (dr : Int64) (tr : Int64) (C : ChoT) (F : (Nat → Int32)) (G : GoT) (N : Nat) (n : Nat) (hn : n ≤ 24) (hc : S_cells S = nI n) (hN : N ≤ 1000) : MW l yX4_drawnMoves cX4_drawnMoves 8 (some .int) (rz 4 94) k [.ref (a 0), .ref (a 14), .int (nI N)] (xW k a S T dr tr C F G) (some (.int (w_dm_dr S T dr n N))) (xW k a S (w_dmT_dr S T dr n N) (w_dmx_dr S T dr n N) tr C F G) := by
  intro sz
  refine Met.ofW (cc := cX4_drawnMoves) (maxL := 8) (ret := (some .int)) (by decide) rfl ?_
  intro p e s m args below meth c s₁ B hml hv
  obtain ⟨rfl, hsz, hP, hK, hD0⟩ := hv
  have hx := B.exec
  have hb := B.bytes
  have hr := B.returns
  have hU : ∀ w ∈ wsL_law, w.before [.ref (a 0), .ref (a 14), .int (nI N)].toArray s = true := fun w h => atoms_spec (ws := Cond.code yX4_drawnMoves cX4_drawnMoves 8 (some .int) :: wsL_law) B.pre w (List.mem_cons_of_mem _ h)
  have hown : s.vm.findClass RX4 = some m.cls := findClass_of_methodNamed B.named
  have hlocks := B.notSynchronized
  have hF : CF p m c cX4_drawnMoves 8 s [.ref (a 0), .ref (a 14), .int (nI N)].toArray RX4 := ⟨hx, hb, hml, hown, hU⟩
  subst hsz
  have hD := hD0.self (sz := s.heap.size)
  generalize hAe : va_A (xW k a S T dr tr C F G) s.heap.size = A at hD ⊢
  have hA : ∀ q : Nat, s.heap.size ≤ q → A q := fun q h => by rw [← hAe]; exact Or.inr h
  have hS : va_S A s.heap s.heap [] := va_S.rf
  have hl := lv_entry ([.ref (a 0), .ref (a 14), .int (nI N)] : List Value) (n := 8) (Nat.le_of_ble_eq_true rfl)
  rw [lg_entry_eq]
  generalize (lg_sl ([.ref (a 0), .ref (a 14), .int (nI N)] : List Value) ++ List.replicate (8 - (lg_sl ([.ref (a 0), .ref (a 14), .int (nI N)] : List Value)).length) Slot.unset).toArray = ls at hl ⊢
  have hl : lv_has ls 8 [(0, .ref (a 0)), (1, .ref (a 14)), (2, .int (nI N))] := hl
  refine lv_aload_n hx hb dX4_drawnMoves_0 rfl (lv_at hl 0 rfl) ?_
  refine va_get (D := k.1) (ci := 4) (v := .ref (a 11)) (C := RX4) (T := TX4) (N := 10) hx hb hU inlX4 hown hK.1 hP 0 rfl rfl 1 (by decide) (hU _ uF_X4_21) (fun _ h9 => h9) rfl dX4_drawnMoves_1 ?_
  refine lv_aload_n hx hb dX4_drawnMoves_4 rfl (lv_at hl 0 rfl) ?_
  refine va_get (D := k.1) (ci := 4) (v := .ref (a 1)) (C := RX4) (T := TX4) (N := 10) hx hb hU inlX4 hown hK.1 hP 0 rfl rfl 0 (by decide) (hU _ uF_X4_10) (fun _ h9 => h9) rfl dX4_drawnMoves_5 ?_
  refine rcVN (n := 0) (As := []) (rest := [.ref (a 11)]) hF (c_X2_openSet l k a S T dr tr C F G  ) (hP) hK 1 (ci := 2) rfl rfl rfl uC_X2_openSet uN_X2 nM_X4_229 uI_X2_openSet uE_X2_openSet (by decide +kernel) rfl ⟨Nat.le_of_ble_eq_true rfl, Nat.le_of_ble_eq_true rfl⟩ ⟨Nat.zero_le _, Nat.zero_le _⟩ hl.1 rfl (Nat.le_of_ble_eq_true rfl) dX4_drawnMoves_8 ?_
  refine wcVN (n := 1) (As := [.int (w_X2_openSet S)]) (rest := []) hF (c_X3_begin l k a S T dr tr C F G (w_X2_openSet S) n hn hc) hP hD hS hA hK 11 (ci := 3) rfl rfl rfl uC_X3_begin uN_X3 nM_X4_160 uI_X3_begin uE_X3_begin (by decide +kernel) rfl ⟨Nat.le_of_ble_eq_true rfl, Nat.le_of_ble_eq_true rfl⟩ ⟨Nat.zero_le _, Nat.zero_le _⟩ hl.1 rfl (Nat.le_of_ble_eq_true rfl) dX4_drawnMoves_11 (fun H locs hP hD hS => ?_)
  have hP : va_P k.1 vwCl (xW k a S (bgT S T n (w_X2_openSet S) n) dr tr C F G) H := hP
  have hD : va_D A (xW k a S (bgT S T n (w_X2_openSet S) n) dr tr C F G) := hD
  refine lv_aload_n hx hb dX4_drawnMoves_14 rfl (lv_at hl 0 rfl) ?_
  refine va_get (D := k.1) (ci := 4) (v := .ref (a 1)) (C := RX4) (T := TX4) (N := 10) hx hb hU inlX4 hown hK.1 hP 0 rfl rfl 0 (by decide) (hU _ uF_X4_10) (fun _ h9 => h9) rfl dX4_drawnMoves_15 ?_
  refine va_getN (D := k.1) (ci := 2) (v := .int (S_cells S)) (C := RX2) (T := TX2) (N := 16) hx hb hU inlX2 hown hK.1 hP 1 rfl rfl 12 (by decide) (hK.nf nF_X4_60) (fun _ h9 => h9) rfl dX4_drawnMoves_18 ?_
  refine lv_if_eq (tgt := 34) hx hb dX4_drawnMoves_21 (by decide) (fun c_1 => ?_) (fun c_1 => ?_)
  · refine lv_iconst (v := (-1)) hx hb dX4_drawnMoves_34 (by decide) ?_
    have hP9 : va_P k.1 vwCl (xW k a S (w_dmT_dr S T dr n N) (w_dmx_dr S T dr n N) tr C F G) H := by rw [w_dmT_dr, if_pos c_1]; rw [w_dmx_dr, if_pos c_1]; exact hP
    have hD9 : va_D A (xW k a S (w_dmT_dr S T dr n N) (w_dmx_dr S T dr n N) tr C F G) := by rw [w_dmT_dr, if_pos c_1]; rw [w_dmx_dr, if_pos c_1]; exact hD
    exact W.iret (v := (-1)) hx hb hr (fun t ht hW => ⟨⟨by rw [w_dm_dr, if_pos c_1], by rw [ht]; exact hP9, hD9⟩, hS.F ht⟩) hS.2.2 dX4_drawnMoves_35
  · refine lv_aload_n hx hb dX4_drawnMoves_24 rfl (lv_at hl 0 rfl) ?_
    refine va_get (D := k.1) (ci := 4) (v := .ref (a 11)) (C := RX4) (T := TX4) (N := 10) hx hb hU inlX4 hown hK.1 hP 0 rfl rfl 1 (by decide) (hU _ uF_X4_21) (fun _ h9 => h9) rfl dX4_drawnMoves_25 ?_
    refine rcVN (n := 0) (As := []) (rest := []) hF (c_X3_stands l k a S (bgT S T n (w_X2_openSet S) n) dr tr C F G  ) (hP) hK 11 (ci := 3) rfl rfl rfl uC_X3_stands uN_X3 nM_X4_248 uI_X3_stands uE_X3_stands (by decide +kernel) rfl ⟨Nat.le_of_ble_eq_true rfl, Nat.le_of_ble_eq_true rfl⟩ ⟨Nat.zero_le _, Nat.zero_le _⟩ hl.1 rfl (Nat.le_of_ble_eq_true rfl) dX4_drawnMoves_28 ?_
    refine lv_if_ne (tgt := 36) hx hb dX4_drawnMoves_31 (by decide) (fun c_2 => ?_) (fun c_2 => ?_)
    · have hn0 : 0 < n := by rcases Nat.eq_zero_or_pos n with h | h; exact absurd (by rw [hc, h]; rfl) c_1; exact h
      refine lv_iconst (v := 0) hx hb dX4_drawnMoves_36 (by decide) ?_
      refine lv_istore_n (lv' := [(3, .int 0), (0, .ref (a 0)), (1, .ref (a 14)), (2, .int (nI N))]) hx hb dX4_drawnMoves_37 rfl hl (by decide) rfl (fun ls hl => ?_)
      refine lv_aload_n hx hb dX4_drawnMoves_38 rfl (lv_at hl 1 rfl) ?_
      refine va_get (D := k.1) (ci := 4) (v := .ref (a 11)) (C := RX4) (T := TX4) (N := 10) hx hb hU inlX4 hown hK.1 hP 0 rfl rfl 1 (by decide) (hU _ uF_X4_21) (fun _ h9 => h9) rfl dX4_drawnMoves_39 ?_
      refine rcVN (n := 0) (As := []) (rest := []) hF (c_X3_price l k a S (bgT S T n (w_X2_openSet S) n) dr tr C F G  ) (hP) hK 11 (ci := 3) rfl rfl rfl uC_X3_price uN_X3 nM_X4_181 uI_X3_price uE_X3_price (by decide +kernel) rfl ⟨Nat.le_of_ble_eq_true rfl, Nat.le_of_ble_eq_true rfl⟩ ⟨Nat.zero_le _, Nat.zero_le _⟩ hl.1 rfl (Nat.le_of_ble_eq_true rfl) dX4_drawnMoves_42 ?_
      refine lv_lstore (lv' := [(4, .long (w_X3_price S (bgT S T n (w_X2_openSet S) n))), (3, .int 0), (0, .ref (a 0)), (1, .ref (a 14)), (2, .int (nI N))]) hx hb dX4_drawnMoves_45 hl (by decide) rfl (fun ls hl => ?_)
      refine lv_iconst (v := 0) hx hb dX4_drawnMoves_47 (by decide) ?_
      refine lv_istore (lv' := [(6, .int 0), (4, .long (w_X3_price S (bgT S T n (w_X2_openSet S) n))), (3, .int 0), (0, .ref (a 0)), (1, .ref (a 14)), (2, .int (nI N))]) hx hb dX4_drawnMoves_48 hl (by decide) rfl (fun ls hl => ?_)
      have loop_i : ∀ (ri i : Nat), i + ri * 1 = N → ∀ (ls : Array Slot) (H : Heap) (locs : List Loc) , lv_has ls 8 [(6, .int (nI i)), (4, .long ((dm S n (dm0 S T n dr) i).2.2.2)), (3, .int (nI ((dm S n (dm0 S T n dr) i).2.2.1))), (0, .ref (a 0)), (1, .ref (a 14)), (2, .int (nI N))] → va_P k.1 vwCl (xW k a S (dm S n (dm0 S T n dr) i).1 (dm S n (dm0 S T n dr) i).2.1 tr C F G) H → va_D A (xW k a S (dm S n (dm0 S T n dr) i).1 (dm S n (dm0 S T n dr) i).2.1 tr C F G) → va_S A s.heap H locs → WW p l e s m below meth c yX4_drawnMoves cX4_drawnMoves 8 (some .int) (rz 4 94) [.ref (a 0), .ref (a 14), .int (nI N)] (some (.int (w_dm_dr S T dr n N))) k (xW k a S (w_dmT_dr S T dr n N) (w_dmx_dr S T dr n N) tr C F G) A H locs (F0 m 50 ls []) := by
        intro ri
        induction ri with
        | zero =>
          intro i hi_i ls H locs hl hP hD hS
          have he_i : N = i := by omega
          subst he_i
          refine lv_iload hx hb dX4_drawnMoves_50 (lv_at hl 0 rfl) ?_
          refine lv_iload_n hx hb dX4_drawnMoves_52 rfl (lv_at hl 5 rfl) ?_
          refine xb_ge (tgt := 134) hx hb dX4_drawnMoves_53 (by decide) (fun c_3 => ?_) (fun c9 => absurd c9 (nI_nlt (a := N) (b := N) (Nat.le_refl _) (by omega)))
          refine lv_iload_n hx hb dX4_drawnMoves_134 rfl (lv_at hl 2 rfl) ?_
          have hP9 : va_P k.1 vwCl (xW k a S (w_dmT_dr S T dr n N) (w_dmx_dr S T dr n N) tr C F G) H := by rw [w_dmT_dr, if_neg c_1, if_neg c_2]; rw [w_dmx_dr, if_neg c_1, if_neg c_2]; exact hP
          have hD9 : va_D A (xW k a S (w_dmT_dr S T dr n N) (w_dmx_dr S T dr n N) tr C F G) := by rw [w_dmT_dr, if_neg c_1, if_neg c_2]; rw [w_dmx_dr, if_neg c_1, if_neg c_2]; exact hD
          exact W.iret (v := (nI ((dm S n (dm0 S T n dr) N).2.2.1))) hx hb hr (fun t ht hW => ⟨⟨by rw [w_dm_dr, if_neg c_1, if_neg c_2], by rw [ht]; exact hP9, hD9⟩, hS.F ht⟩) hS.2.2 dX4_drawnMoves_135
        | succ ri ih_i =>
          intro i hi_i ls H locs hl hP hD hS
          have ht_i : i < N := by omega
          refine lv_iload hx hb dX4_drawnMoves_50 (lv_at hl 0 rfl) ?_
          refine lv_iload_n hx hb dX4_drawnMoves_52 rfl (lv_at hl 5 rfl) ?_
          refine xb_ge (tgt := 134) hx hb dX4_drawnMoves_53 (by decide) (fun c9 => absurd (nI_lt (a := i) (b := N) (by omega) (by omega)) c9) (fun c_4 => ?_)
          refine lv_aload_n hx hb dX4_drawnMoves_56 rfl (lv_at hl 4 rfl) ?_
          refine wc1 (n := 0) (As := []) (rest := []) hF (c_X1_next l k (fun _ => a 14) (dm S n (dm0 S T n dr) i).2.1 ) hP hD hS hA hK 14 (ci := 1) rfl rfl ⟨rfl, rfl⟩ uC_X1_next uN_X1 nM_X4_252 uI_X1_next uE_X1_next (by decide +kernel) rfl ⟨Nat.le_of_ble_eq_true rfl, Nat.le_of_ble_eq_true rfl⟩ ⟨Nat.zero_le _, Nat.zero_le _⟩ hl.1 rfl (Nat.le_of_ble_eq_true rfl) dX4_drawnMoves_57 (fun H locs hP hD hS => ?_)
          have hP : va_P k.1 vwCl (xW k a S (dm S n (dm0 S T n dr) i).1 (w_X1_next_dr (dm S n (dm0 S T n dr) i).2.1) tr C F G) H := hP
          have hD : va_D A (xW k a S (dm S n (dm0 S T n dr) i).1 (w_X1_next_dr (dm S n (dm0 S T n dr) i).2.1) tr C F G) := hD
          refine lv_aload_n hx hb dX4_drawnMoves_60 rfl (lv_at hl 3 rfl) ?_
          refine va_get (D := k.1) (ci := 4) (v := .ref (a 1)) (C := RX4) (T := TX4) (N := 10) hx hb hU inlX4 hown hK.1 hP 0 rfl rfl 0 (by decide) (hU _ uF_X4_10) (fun _ h9 => h9) rfl dX4_drawnMoves_61 ?_
          refine va_getN (D := k.1) (ci := 2) (v := .int (S_cells S)) (C := RX2) (T := TX2) (N := 16) hx hb hU inlX2 hown hK.1 hP 1 rfl rfl 12 (by decide) (hK.nf nF_X4_60) (fun _ h9 => h9) rfl dX4_drawnMoves_64 ?_
          refine lv_i2l (v := (Int32.toInt64 (S_cells S))) hx hb dX4_drawnMoves_67 rfl ?_
          refine lv_lrem hx hb dX4_drawnMoves_68 (by rw [hc, nI_l (by omega)]; intro h; have h1 := (pk_lEQ (a := n) (b := 0) (by omega) (by omega)).mp h; omega) ?_
          refine lv_l2i (v := (Int64.toInt32 ((w_X1_next (dm S n (dm0 S T n dr) i).2.1) - (w_X1_next (dm S n (dm0 S T n dr) i).2.1) / (Int32.toInt64 (S_cells S)) * (Int32.toInt64 (S_cells S))))) hx hb dX4_drawnMoves_69 rfl ?_
          refine W.eq (g2 := F0 m 70 ls [.int (nI (djN n (dm S n (dm0 S T n dr) i).2.1))]) (by rw [hc, (dj_spec hn0 hn _).1]; try rfl) ?_
          have hdj : djN n (dm S n (dm0 S T n dr) i).2.1 < n := (dj_spec hn0 hn _).2
          refine lv_istore (lv' := [(7, .int (nI (djN n (dm S n (dm0 S T n dr) i).2.1))), (6, .int (nI i)), (4, .long ((dm S n (dm0 S T n dr) i).2.2.2)), (3, .int (nI ((dm S n (dm0 S T n dr) i).2.2.1))), (0, .ref (a 0)), (1, .ref (a 14)), (2, .int (nI N))]) hx hb dX4_drawnMoves_70 hl (by decide) rfl (fun ls hl => ?_)
          refine lv_aload_n hx hb dX4_drawnMoves_72 rfl (lv_at hl 4 rfl) ?_
          refine va_get (D := k.1) (ci := 4) (v := .ref (a 11)) (C := RX4) (T := TX4) (N := 10) hx hb hU inlX4 hown hK.1 hP 0 rfl rfl 1 (by decide) (hU _ uF_X4_21) (fun _ h9 => h9) rfl dX4_drawnMoves_73 ?_
          refine lv_iload hx hb dX4_drawnMoves_76 (lv_at hl 0 rfl) ?_
          refine wcVN (n := 1) (As := [.int (nI (djN n (dm S n (dm0 S T n dr) i).2.1))]) (rest := []) hF (c_X3_exchange l k a S (dm S n (dm0 S T n dr) i).1 (w_X1_next_dr (dm S n (dm0 S T n dr) i).2.1) tr C F G (djN n (dm S n (dm0 S T n dr) i).2.1) n hn hc (by omega)) hP hD hS hA hK 11 (ci := 3) rfl rfl rfl uC_X3_exchange uN_X3 nM_X4_241 uI_X3_exchange uE_X3_exchange (by decide +kernel) rfl ⟨Nat.le_of_ble_eq_true rfl, Nat.le_of_ble_eq_true rfl⟩ ⟨Nat.zero_le _, Nat.zero_le _⟩ hl.1 rfl (Nat.le_of_ble_eq_true rfl) dX4_drawnMoves_78 (fun H locs hP hD hS => ?_)
          have hP : va_P k.1 vwCl (xW k a S (ex_T S (dm S n (dm0 S T n dr) i).1 n (djN n (dm S n (dm0 S T n dr) i).2.1)) (w_X1_next_dr (dm S n (dm0 S T n dr) i).2.1) tr C F G) H := hP
          have hD : va_D A (xW k a S (ex_T S (dm S n (dm0 S T n dr) i).1 n (djN n (dm S n (dm0 S T n dr) i).2.1)) (w_X1_next_dr (dm S n (dm0 S T n dr) i).2.1) tr C F G) := hD
          refine lv_aload_n hx hb dX4_drawnMoves_81 rfl (lv_at hl 4 rfl) ?_
          refine va_get (D := k.1) (ci := 4) (v := .ref (a 11)) (C := RX4) (T := TX4) (N := 10) hx hb hU inlX4 hown hK.1 hP 0 rfl rfl 1 (by decide) (hU _ uF_X4_21) (fun _ h9 => h9) rfl dX4_drawnMoves_82 ?_
          refine rcVN (n := 0) (As := []) (rest := []) hF (c_X3_price l k a S (ex_T S (dm S n (dm0 S T n dr) i).1 n (djN n (dm S n (dm0 S T n dr) i).2.1)) (w_X1_next_dr (dm S n (dm0 S T n dr) i).2.1) tr C F G  ) (hP) hK 11 (ci := 3) rfl rfl rfl uC_X3_price uN_X3 nM_X4_181 uI_X3_price uE_X3_price (by decide +kernel) rfl ⟨Nat.le_of_ble_eq_true rfl, Nat.le_of_ble_eq_true rfl⟩ ⟨Nat.zero_le _, Nat.zero_le _⟩ hl.1 rfl (Nat.le_of_ble_eq_true rfl) dX4_drawnMoves_85 ?_
          refine lv_lload hx hb dX4_drawnMoves_88 (lv_at hl 2 rfl) ?_
          refine xl_ge (tgt := 119) hx hb dX4_drawnMoves_90 dX4_drawnMoves_91 (by decide) (fun c_5 => ?_) (fun c_5 => ?_)
          · refine lv_aload_n hx hb dX4_drawnMoves_119 rfl (lv_at hl 4 rfl) ?_
            refine va_get (D := k.1) (ci := 4) (v := .ref (a 11)) (C := RX4) (T := TX4) (N := 10) hx hb hU inlX4 hown hK.1 hP 0 rfl rfl 1 (by decide) (hU _ uF_X4_21) (fun _ h9 => h9) rfl dX4_drawnMoves_120 ?_
            refine lv_iload hx hb dX4_drawnMoves_123 (lv_at hl 0 rfl) ?_
            refine wcVN (n := 1) (As := [.int (nI (djN n (dm S n (dm0 S T n dr) i).2.1))]) (rest := []) hF (c_X3_exchange l k a S (ex_T S (dm S n (dm0 S T n dr) i).1 n (djN n (dm S n (dm0 S T n dr) i).2.1)) (w_X1_next_dr (dm S n (dm0 S T n dr) i).2.1) tr C F G (djN n (dm S n (dm0 S T n dr) i).2.1) n hn hc (by omega)) hP hD hS hA hK 11 (ci := 3) rfl rfl rfl uC_X3_exchange uN_X3 nM_X4_241 uI_X3_exchange uE_X3_exchange (by decide +kernel) rfl ⟨Nat.le_of_ble_eq_true rfl, Nat.le_of_ble_eq_true rfl⟩ ⟨Nat.zero_le _, Nat.zero_le _⟩ hl.1 rfl (Nat.le_of_ble_eq_true rfl) dX4_drawnMoves_125 (fun H locs hP hD hS => ?_)
            have hP : va_P k.1 vwCl (xW k a S (ex_T S (ex_T S (dm S n (dm0 S T n dr) i).1 n (djN n (dm S n (dm0 S T n dr) i).2.1)) n (djN n (dm S n (dm0 S T n dr) i).2.1)) (w_X1_next_dr (dm S n (dm0 S T n dr) i).2.1) tr C F G) H := hP
            have hD : va_D A (xW k a S (ex_T S (ex_T S (dm S n (dm0 S T n dr) i).1 n (djN n (dm S n (dm0 S T n dr) i).2.1)) n (djN n (dm S n (dm0 S T n dr) i).2.1)) (w_X1_next_dr (dm S n (dm0 S T n dr) i).2.1) tr C F G) := hD
            refine lv_iinc (v := nI (i + 1)) (lv' := [(6, .int (nI (i + 1))), (7, .int (nI (djN n (dm S n (dm0 S T n dr) i).2.1))), (4, .long ((dm S n (dm0 S T n dr) i).2.2.2)), (3, .int (nI ((dm S n (dm0 S T n dr) i).2.2.1))), (0, .ref (a 0)), (1, .ref (a 14)), (2, .int (nI N))]) hx hb dX4_drawnMoves_128 hl (k := 1) rfl (nI_add i 1) (by decide) rfl (fun ls hl => ?_)
            refine lv_goto (tgt := 50) hx hb dX4_drawnMoves_131 (by decide) ?_
            have hq4 : (dm S n (dm0 S T n dr) i).2.2.2 = (dm S n (dm0 S T n dr) (i + 1)).2.2.2 := by rw [dm, dms, if_neg c_5]
            rw [hq4] at hl
            have hq3 : ((dm S n (dm0 S T n dr) i).2.2.1) = (dm S n (dm0 S T n dr) (i + 1)).2.2.1 := by rw [dm, dms, if_neg c_5]
            rw [hq3] at hl
            have hq1 : (ex_T S (ex_T S (dm S n (dm0 S T n dr) i).1 n (djN n (dm S n (dm0 S T n dr) i).2.1)) n (djN n (dm S n (dm0 S T n dr) i).2.1)) = (dm S n (dm0 S T n dr) (i + 1)).1 := by rw [dm, dms, if_neg c_5]
            rw [hq1] at hP hD
            have hq2 : (w_X1_next_dr (dm S n (dm0 S T n dr) i).2.1) = (dm S n (dm0 S T n dr) (i + 1)).2.1 := by rw [dm, dms, if_neg c_5]
            rw [hq2] at hP hD
            exact ih_i (i + 1) (by omega) ls _ _ (lv_sub hl [0, 2, 3, 4, 5, 6] rfl) hP hD hS
          · refine lv_aload_n hx hb dX4_drawnMoves_94 rfl (lv_at hl 4 rfl) ?_
            refine va_get (D := k.1) (ci := 4) (v := .ref (a 11)) (C := RX4) (T := TX4) (N := 10) hx hb hU inlX4 hown hK.1 hP 0 rfl rfl 1 (by decide) (hU _ uF_X4_21) (fun _ h9 => h9) rfl dX4_drawnMoves_95 ?_
            refine rcVN (n := 0) (As := []) (rest := []) hF (c_X3_stands l k a S (ex_T S (dm S n (dm0 S T n dr) i).1 n (djN n (dm S n (dm0 S T n dr) i).2.1)) (w_X1_next_dr (dm S n (dm0 S T n dr) i).2.1) tr C F G  ) (hP) hK 11 (ci := 3) rfl rfl rfl uC_X3_stands uN_X3 nM_X4_248 uI_X3_stands uE_X3_stands (by decide +kernel) rfl ⟨Nat.le_of_ble_eq_true rfl, Nat.le_of_ble_eq_true rfl⟩ ⟨Nat.zero_le _, Nat.zero_le _⟩ hl.1 rfl (Nat.le_of_ble_eq_true rfl) dX4_drawnMoves_98 ?_
            refine lv_if_eq (tgt := 119) hx hb dX4_drawnMoves_101 (by decide) (fun c_6 => ?_) (fun c_6 => ?_)
            · refine lv_aload_n hx hb dX4_drawnMoves_119 rfl (lv_at hl 4 rfl) ?_
              refine va_get (D := k.1) (ci := 4) (v := .ref (a 11)) (C := RX4) (T := TX4) (N := 10) hx hb hU inlX4 hown hK.1 hP 0 rfl rfl 1 (by decide) (hU _ uF_X4_21) (fun _ h9 => h9) rfl dX4_drawnMoves_120 ?_
              refine lv_iload hx hb dX4_drawnMoves_123 (lv_at hl 0 rfl) ?_
              refine wcVN (n := 1) (As := [.int (nI (djN n (dm S n (dm0 S T n dr) i).2.1))]) (rest := []) hF (c_X3_exchange l k a S (ex_T S (dm S n (dm0 S T n dr) i).1 n (djN n (dm S n (dm0 S T n dr) i).2.1)) (w_X1_next_dr (dm S n (dm0 S T n dr) i).2.1) tr C F G (djN n (dm S n (dm0 S T n dr) i).2.1) n hn hc (by omega)) hP hD hS hA hK 11 (ci := 3) rfl rfl rfl uC_X3_exchange uN_X3 nM_X4_241 uI_X3_exchange uE_X3_exchange (by decide +kernel) rfl ⟨Nat.le_of_ble_eq_true rfl, Nat.le_of_ble_eq_true rfl⟩ ⟨Nat.zero_le _, Nat.zero_le _⟩ hl.1 rfl (Nat.le_of_ble_eq_true rfl) dX4_drawnMoves_125 (fun H locs hP hD hS => ?_)
              have hP : va_P k.1 vwCl (xW k a S (ex_T S (ex_T S (dm S n (dm0 S T n dr) i).1 n (djN n (dm S n (dm0 S T n dr) i).2.1)) n (djN n (dm S n (dm0 S T n dr) i).2.1)) (w_X1_next_dr (dm S n (dm0 S T n dr) i).2.1) tr C F G) H := hP
              have hD : va_D A (xW k a S (ex_T S (ex_T S (dm S n (dm0 S T n dr) i).1 n (djN n (dm S n (dm0 S T n dr) i).2.1)) n (djN n (dm S n (dm0 S T n dr) i).2.1)) (w_X1_next_dr (dm S n (dm0 S T n dr) i).2.1) tr C F G) := hD
              refine lv_iinc (v := nI (i + 1)) (lv' := [(6, .int (nI (i + 1))), (7, .int (nI (djN n (dm S n (dm0 S T n dr) i).2.1))), (4, .long ((dm S n (dm0 S T n dr) i).2.2.2)), (3, .int (nI ((dm S n (dm0 S T n dr) i).2.2.1))), (0, .ref (a 0)), (1, .ref (a 14)), (2, .int (nI N))]) hx hb dX4_drawnMoves_128 hl (k := 1) rfl (nI_add i 1) (by decide) rfl (fun ls hl => ?_)
              refine lv_goto (tgt := 50) hx hb dX4_drawnMoves_131 (by decide) ?_
              have hq4 : (dm S n (dm0 S T n dr) i).2.2.2 = (dm S n (dm0 S T n dr) (i + 1)).2.2.2 := by rw [dm, dms, if_pos c_5, if_pos c_6]
              rw [hq4] at hl
              have hq3 : ((dm S n (dm0 S T n dr) i).2.2.1) = (dm S n (dm0 S T n dr) (i + 1)).2.2.1 := by rw [dm, dms, if_pos c_5, if_pos c_6]
              rw [hq3] at hl
              have hq1 : (ex_T S (ex_T S (dm S n (dm0 S T n dr) i).1 n (djN n (dm S n (dm0 S T n dr) i).2.1)) n (djN n (dm S n (dm0 S T n dr) i).2.1)) = (dm S n (dm0 S T n dr) (i + 1)).1 := by rw [dm, dms, if_pos c_5, if_pos c_6]
              rw [hq1] at hP hD
              have hq2 : (w_X1_next_dr (dm S n (dm0 S T n dr) i).2.1) = (dm S n (dm0 S T n dr) (i + 1)).2.1 := by rw [dm, dms, if_pos c_5, if_pos c_6]
              rw [hq2] at hP hD
              exact ih_i (i + 1) (by omega) ls _ _ (lv_sub hl [0, 2, 3, 4, 5, 6] rfl) hP hD hS
            · refine lv_aload_n hx hb dX4_drawnMoves_104 rfl (lv_at hl 4 rfl) ?_
              refine va_get (D := k.1) (ci := 4) (v := .ref (a 11)) (C := RX4) (T := TX4) (N := 10) hx hb hU inlX4 hown hK.1 hP 0 rfl rfl 1 (by decide) (hU _ uF_X4_21) (fun _ h9 => h9) rfl dX4_drawnMoves_105 ?_
              refine rcVN (n := 0) (As := []) (rest := []) hF (c_X3_price l k a S (ex_T S (dm S n (dm0 S T n dr) i).1 n (djN n (dm S n (dm0 S T n dr) i).2.1)) (w_X1_next_dr (dm S n (dm0 S T n dr) i).2.1) tr C F G  ) (hP) hK 11 (ci := 3) rfl rfl rfl uC_X3_price uN_X3 nM_X4_181 uI_X3_price uE_X3_price (by decide +kernel) rfl ⟨Nat.le_of_ble_eq_true rfl, Nat.le_of_ble_eq_true rfl⟩ ⟨Nat.zero_le _, Nat.zero_le _⟩ hl.1 rfl (Nat.le_of_ble_eq_true rfl) dX4_drawnMoves_108 ?_
              refine lv_lstore (lv' := [(4, .long (w_X3_price S (ex_T S (dm S n (dm0 S T n dr) i).1 n (djN n (dm S n (dm0 S T n dr) i).2.1)))), (7, .int (nI (djN n (dm S n (dm0 S T n dr) i).2.1))), (6, .int (nI i)), (3, .int (nI ((dm S n (dm0 S T n dr) i).2.2.1))), (0, .ref (a 0)), (1, .ref (a 14)), (2, .int (nI N))]) hx hb dX4_drawnMoves_111 hl (by decide) rfl (fun ls hl => ?_)
              refine lv_iinc (v := nI (((dm S n (dm0 S T n dr) i).2.2.1) + 1)) (lv' := [(3, .int (nI (((dm S n (dm0 S T n dr) i).2.2.1) + 1))), (4, .long (w_X3_price S (ex_T S (dm S n (dm0 S T n dr) i).1 n (djN n (dm S n (dm0 S T n dr) i).2.1)))), (7, .int (nI (djN n (dm S n (dm0 S T n dr) i).2.1))), (6, .int (nI i)), (0, .ref (a 0)), (1, .ref (a 14)), (2, .int (nI N))]) hx hb dX4_drawnMoves_113 hl (k := 3) rfl (nI_add ((dm S n (dm0 S T n dr) i).2.2.1) 1) (by decide) rfl (fun ls hl => ?_)
              refine lv_goto (tgt := 128) hx hb dX4_drawnMoves_116 (by decide) ?_
              refine lv_iinc (v := nI (i + 1)) (lv' := [(6, .int (nI (i + 1))), (3, .int (nI (((dm S n (dm0 S T n dr) i).2.2.1) + 1))), (4, .long (w_X3_price S (ex_T S (dm S n (dm0 S T n dr) i).1 n (djN n (dm S n (dm0 S T n dr) i).2.1)))), (7, .int (nI (djN n (dm S n (dm0 S T n dr) i).2.1))), (0, .ref (a 0)), (1, .ref (a 14)), (2, .int (nI N))]) hx hb dX4_drawnMoves_128 hl (k := 3) rfl (nI_add i 1) (by decide) rfl (fun ls hl => ?_)
              refine lv_goto (tgt := 50) hx hb dX4_drawnMoves_131 (by decide) ?_
              have hq4 : (w_X3_price S (ex_T S (dm S n (dm0 S T n dr) i).1 n (djN n (dm S n (dm0 S T n dr) i).2.1))) = (dm S n (dm0 S T n dr) (i + 1)).2.2.2 := by rw [dm, dms, if_pos c_5, if_neg c_6]
              rw [hq4] at hl
              have hq3 : (((dm S n (dm0 S T n dr) i).2.2.1) + 1) = (dm S n (dm0 S T n dr) (i + 1)).2.2.1 := by rw [dm, dms, if_pos c_5, if_neg c_6]
              rw [hq3] at hl
              have hq1 : (ex_T S (dm S n (dm0 S T n dr) i).1 n (djN n (dm S n (dm0 S T n dr) i).2.1)) = (dm S n (dm0 S T n dr) (i + 1)).1 := by rw [dm, dms, if_pos c_5, if_neg c_6]
              rw [hq1] at hP hD
              have hq2 : (w_X1_next_dr (dm S n (dm0 S T n dr) i).2.1) = (dm S n (dm0 S T n dr) (i + 1)).2.1 := by rw [dm, dms, if_pos c_5, if_neg c_6]
              rw [hq2] at hP hD
              exact ih_i (i + 1) (by omega) ls _ _ (lv_sub hl [0, 2, 1, 4, 5, 6] rfl) hP hD hS
      exact loop_i N 0 (by omega) ls _ _ (lv_sub hl [0, 1, 2, 3, 4, 5] rfl) hP hD hS
    · refine lv_iconst (v := (-1)) hx hb dX4_drawnMoves_34 (by decide) ?_
      have hP9 : va_P k.1 vwCl (xW k a S (w_dmT_dr S T dr n N) (w_dmx_dr S T dr n N) tr C F G) H := by rw [w_dmT_dr, if_neg c_1, if_pos c_2]; rw [w_dmx_dr, if_neg c_1, if_pos c_2]; exact hP
      have hD9 : va_D A (xW k a S (w_dmT_dr S T dr n N) (w_dmx_dr S T dr n N) tr C F G) := by rw [w_dmT_dr, if_neg c_1, if_pos c_2]; rw [w_dmx_dr, if_neg c_1, if_pos c_2]; exact hD
      exact W.iret (v := (-1)) hx hb hr (fun t ht hW => ⟨⟨by rw [w_dm_dr, if_neg c_1, if_pos c_2], by rw [ht]; exact hP9, hD9⟩, hS.F ht⟩) hS.2.2 dX4_drawnMoves_35

def w_dm_tr (S : SeaT) (T : TalT) (tr : Int64) (n N : Nat) : Int32 := if S_cells S = 0 then (-1) else if w_X3_stands S (bgT S T n (w_X2_openSet S) n) = 0 then (-1) else nI (dm S n (dm0 S T n tr) N).2.2.1
def w_dmT_tr (S : SeaT) (T : TalT) (tr : Int64) (n N : Nat) : TalT := if S_cells S = 0 then bgT S T n (w_X2_openSet S) n else if w_X3_stands S (bgT S T n (w_X2_openSet S) n) = 0 then bgT S T n (w_X2_openSet S) n else (dm S n (dm0 S T n tr) N).1
def w_dmx_tr (S : SeaT) (T : TalT) (tr : Int64) (n N : Nat) : Int64 := if S_cells S = 0 then tr else if w_X3_stands S (bgT S T n (w_X2_openSet S) n) = 0 then tr else (dm S n (dm0 S T n tr) N).2.1

set_option maxHeartbeats 4000000 in
set_option maxRecDepth 100000 in
theorem c_X4_drawnMoves_tr (l : Launch) (k : KT) (a : Nat → Nat) (S : SeaT) (T : TalT) (dr : Int64) (tr : Int64) (C : ChoT) (F : (Nat → Int32)) (G : GoT) (N : Nat) (n : Nat) (hn : n ≤ 24) (hc : S_cells S = nI n) (hN : N ≤ 1000) : MW l yX4_drawnMoves cX4_drawnMoves 8 (some .int) (rz 4 94) k [.ref (a 0), .ref (a 15), .int (nI N)] (xW k a S T dr tr C F G) (some (.int (w_dm_tr S T tr n N))) (xW k a S (w_dmT_tr S T tr n N) dr (w_dmx_tr S T tr n N) C F G) := by
  intro sz
  refine Met.ofW (cc := cX4_drawnMoves) (maxL := 8) (ret := (some .int)) (by decide) rfl ?_
  intro p e s m args below meth c s₁ B hml hv
  obtain ⟨rfl, hsz, hP, hK, hD0⟩ := hv
  have hx := B.exec
  have hb := B.bytes
  have hr := B.returns
  have hU : ∀ w ∈ wsL_law, w.before [.ref (a 0), .ref (a 15), .int (nI N)].toArray s = true := fun w h => atoms_spec (ws := Cond.code yX4_drawnMoves cX4_drawnMoves 8 (some .int) :: wsL_law) B.pre w (List.mem_cons_of_mem _ h)
  have hown : s.vm.findClass RX4 = some m.cls := findClass_of_methodNamed B.named
  have hlocks := B.notSynchronized
  have hF : CF p m c cX4_drawnMoves 8 s [.ref (a 0), .ref (a 15), .int (nI N)].toArray RX4 := ⟨hx, hb, hml, hown, hU⟩
  subst hsz
  have hD := hD0.self (sz := s.heap.size)
  generalize hAe : va_A (xW k a S T dr tr C F G) s.heap.size = A at hD ⊢
  have hA : ∀ q : Nat, s.heap.size ≤ q → A q := fun q h => by rw [← hAe]; exact Or.inr h
  have hS : va_S A s.heap s.heap [] := va_S.rf
  have hl := lv_entry ([.ref (a 0), .ref (a 15), .int (nI N)] : List Value) (n := 8) (Nat.le_of_ble_eq_true rfl)
  rw [lg_entry_eq]
  generalize (lg_sl ([.ref (a 0), .ref (a 15), .int (nI N)] : List Value) ++ List.replicate (8 - (lg_sl ([.ref (a 0), .ref (a 15), .int (nI N)] : List Value)).length) Slot.unset).toArray = ls at hl ⊢
  have hl : lv_has ls 8 [(0, .ref (a 0)), (1, .ref (a 15)), (2, .int (nI N))] := hl
  refine lv_aload_n hx hb dX4_drawnMoves_0 rfl (lv_at hl 0 rfl) ?_
  refine va_get (D := k.1) (ci := 4) (v := .ref (a 11)) (C := RX4) (T := TX4) (N := 10) hx hb hU inlX4 hown hK.1 hP 0 rfl rfl 1 (by decide) (hU _ uF_X4_21) (fun _ h9 => h9) rfl dX4_drawnMoves_1 ?_
  refine lv_aload_n hx hb dX4_drawnMoves_4 rfl (lv_at hl 0 rfl) ?_
  refine va_get (D := k.1) (ci := 4) (v := .ref (a 1)) (C := RX4) (T := TX4) (N := 10) hx hb hU inlX4 hown hK.1 hP 0 rfl rfl 0 (by decide) (hU _ uF_X4_10) (fun _ h9 => h9) rfl dX4_drawnMoves_5 ?_
  refine rcVN (n := 0) (As := []) (rest := [.ref (a 11)]) hF (c_X2_openSet l k a S T dr tr C F G  ) (hP) hK 1 (ci := 2) rfl rfl rfl uC_X2_openSet uN_X2 nM_X4_229 uI_X2_openSet uE_X2_openSet (by decide +kernel) rfl ⟨Nat.le_of_ble_eq_true rfl, Nat.le_of_ble_eq_true rfl⟩ ⟨Nat.zero_le _, Nat.zero_le _⟩ hl.1 rfl (Nat.le_of_ble_eq_true rfl) dX4_drawnMoves_8 ?_
  refine wcVN (n := 1) (As := [.int (w_X2_openSet S)]) (rest := []) hF (c_X3_begin l k a S T dr tr C F G (w_X2_openSet S) n hn hc) hP hD hS hA hK 11 (ci := 3) rfl rfl rfl uC_X3_begin uN_X3 nM_X4_160 uI_X3_begin uE_X3_begin (by decide +kernel) rfl ⟨Nat.le_of_ble_eq_true rfl, Nat.le_of_ble_eq_true rfl⟩ ⟨Nat.zero_le _, Nat.zero_le _⟩ hl.1 rfl (Nat.le_of_ble_eq_true rfl) dX4_drawnMoves_11 (fun H locs hP hD hS => ?_)
  have hP : va_P k.1 vwCl (xW k a S (bgT S T n (w_X2_openSet S) n) dr tr C F G) H := hP
  have hD : va_D A (xW k a S (bgT S T n (w_X2_openSet S) n) dr tr C F G) := hD
  refine lv_aload_n hx hb dX4_drawnMoves_14 rfl (lv_at hl 0 rfl) ?_
  refine va_get (D := k.1) (ci := 4) (v := .ref (a 1)) (C := RX4) (T := TX4) (N := 10) hx hb hU inlX4 hown hK.1 hP 0 rfl rfl 0 (by decide) (hU _ uF_X4_10) (fun _ h9 => h9) rfl dX4_drawnMoves_15 ?_
  refine va_getN (D := k.1) (ci := 2) (v := .int (S_cells S)) (C := RX2) (T := TX2) (N := 16) hx hb hU inlX2 hown hK.1 hP 1 rfl rfl 12 (by decide) (hK.nf nF_X4_60) (fun _ h9 => h9) rfl dX4_drawnMoves_18 ?_
  refine lv_if_eq (tgt := 34) hx hb dX4_drawnMoves_21 (by decide) (fun c_1 => ?_) (fun c_1 => ?_)
  · refine lv_iconst (v := (-1)) hx hb dX4_drawnMoves_34 (by decide) ?_
    have hP9 : va_P k.1 vwCl (xW k a S (w_dmT_tr S T tr n N) dr (w_dmx_tr S T tr n N) C F G) H := by rw [w_dmT_tr, if_pos c_1]; rw [w_dmx_tr, if_pos c_1]; exact hP
    have hD9 : va_D A (xW k a S (w_dmT_tr S T tr n N) dr (w_dmx_tr S T tr n N) C F G) := by rw [w_dmT_tr, if_pos c_1]; rw [w_dmx_tr, if_pos c_1]; exact hD
    exact W.iret (v := (-1)) hx hb hr (fun t ht hW => ⟨⟨by rw [w_dm_tr, if_pos c_1], by rw [ht]; exact hP9, hD9⟩, hS.F ht⟩) hS.2.2 dX4_drawnMoves_35
  · refine lv_aload_n hx hb dX4_drawnMoves_24 rfl (lv_at hl 0 rfl) ?_
    refine va_get (D := k.1) (ci := 4) (v := .ref (a 11)) (C := RX4) (T := TX4) (N := 10) hx hb hU inlX4 hown hK.1 hP 0 rfl rfl 1 (by decide) (hU _ uF_X4_21) (fun _ h9 => h9) rfl dX4_drawnMoves_25 ?_
    refine rcVN (n := 0) (As := []) (rest := []) hF (c_X3_stands l k a S (bgT S T n (w_X2_openSet S) n) dr tr C F G  ) (hP) hK 11 (ci := 3) rfl rfl rfl uC_X3_stands uN_X3 nM_X4_248 uI_X3_stands uE_X3_stands (by decide +kernel) rfl ⟨Nat.le_of_ble_eq_true rfl, Nat.le_of_ble_eq_true rfl⟩ ⟨Nat.zero_le _, Nat.zero_le _⟩ hl.1 rfl (Nat.le_of_ble_eq_true rfl) dX4_drawnMoves_28 ?_
    refine lv_if_ne (tgt := 36) hx hb dX4_drawnMoves_31 (by decide) (fun c_2 => ?_) (fun c_2 => ?_)
    · have hn0 : 0 < n := by rcases Nat.eq_zero_or_pos n with h | h; exact absurd (by rw [hc, h]; rfl) c_1; exact h
      refine lv_iconst (v := 0) hx hb dX4_drawnMoves_36 (by decide) ?_
      refine lv_istore_n (lv' := [(3, .int 0), (0, .ref (a 0)), (1, .ref (a 15)), (2, .int (nI N))]) hx hb dX4_drawnMoves_37 rfl hl (by decide) rfl (fun ls hl => ?_)
      refine lv_aload_n hx hb dX4_drawnMoves_38 rfl (lv_at hl 1 rfl) ?_
      refine va_get (D := k.1) (ci := 4) (v := .ref (a 11)) (C := RX4) (T := TX4) (N := 10) hx hb hU inlX4 hown hK.1 hP 0 rfl rfl 1 (by decide) (hU _ uF_X4_21) (fun _ h9 => h9) rfl dX4_drawnMoves_39 ?_
      refine rcVN (n := 0) (As := []) (rest := []) hF (c_X3_price l k a S (bgT S T n (w_X2_openSet S) n) dr tr C F G  ) (hP) hK 11 (ci := 3) rfl rfl rfl uC_X3_price uN_X3 nM_X4_181 uI_X3_price uE_X3_price (by decide +kernel) rfl ⟨Nat.le_of_ble_eq_true rfl, Nat.le_of_ble_eq_true rfl⟩ ⟨Nat.zero_le _, Nat.zero_le _⟩ hl.1 rfl (Nat.le_of_ble_eq_true rfl) dX4_drawnMoves_42 ?_
      refine lv_lstore (lv' := [(4, .long (w_X3_price S (bgT S T n (w_X2_openSet S) n))), (3, .int 0), (0, .ref (a 0)), (1, .ref (a 15)), (2, .int (nI N))]) hx hb dX4_drawnMoves_45 hl (by decide) rfl (fun ls hl => ?_)
      refine lv_iconst (v := 0) hx hb dX4_drawnMoves_47 (by decide) ?_
      refine lv_istore (lv' := [(6, .int 0), (4, .long (w_X3_price S (bgT S T n (w_X2_openSet S) n))), (3, .int 0), (0, .ref (a 0)), (1, .ref (a 15)), (2, .int (nI N))]) hx hb dX4_drawnMoves_48 hl (by decide) rfl (fun ls hl => ?_)
      have loop_i : ∀ (ri i : Nat), i + ri * 1 = N → ∀ (ls : Array Slot) (H : Heap) (locs : List Loc) , lv_has ls 8 [(6, .int (nI i)), (4, .long ((dm S n (dm0 S T n tr) i).2.2.2)), (3, .int (nI ((dm S n (dm0 S T n tr) i).2.2.1))), (0, .ref (a 0)), (1, .ref (a 15)), (2, .int (nI N))] → va_P k.1 vwCl (xW k a S (dm S n (dm0 S T n tr) i).1 dr (dm S n (dm0 S T n tr) i).2.1 C F G) H → va_D A (xW k a S (dm S n (dm0 S T n tr) i).1 dr (dm S n (dm0 S T n tr) i).2.1 C F G) → va_S A s.heap H locs → WW p l e s m below meth c yX4_drawnMoves cX4_drawnMoves 8 (some .int) (rz 4 94) [.ref (a 0), .ref (a 15), .int (nI N)] (some (.int (w_dm_tr S T tr n N))) k (xW k a S (w_dmT_tr S T tr n N) dr (w_dmx_tr S T tr n N) C F G) A H locs (F0 m 50 ls []) := by
        intro ri
        induction ri with
        | zero =>
          intro i hi_i ls H locs hl hP hD hS
          have he_i : N = i := by omega
          subst he_i
          refine lv_iload hx hb dX4_drawnMoves_50 (lv_at hl 0 rfl) ?_
          refine lv_iload_n hx hb dX4_drawnMoves_52 rfl (lv_at hl 5 rfl) ?_
          refine xb_ge (tgt := 134) hx hb dX4_drawnMoves_53 (by decide) (fun c_3 => ?_) (fun c9 => absurd c9 (nI_nlt (a := N) (b := N) (Nat.le_refl _) (by omega)))
          refine lv_iload_n hx hb dX4_drawnMoves_134 rfl (lv_at hl 2 rfl) ?_
          have hP9 : va_P k.1 vwCl (xW k a S (w_dmT_tr S T tr n N) dr (w_dmx_tr S T tr n N) C F G) H := by rw [w_dmT_tr, if_neg c_1, if_neg c_2]; rw [w_dmx_tr, if_neg c_1, if_neg c_2]; exact hP
          have hD9 : va_D A (xW k a S (w_dmT_tr S T tr n N) dr (w_dmx_tr S T tr n N) C F G) := by rw [w_dmT_tr, if_neg c_1, if_neg c_2]; rw [w_dmx_tr, if_neg c_1, if_neg c_2]; exact hD
          exact W.iret (v := (nI ((dm S n (dm0 S T n tr) N).2.2.1))) hx hb hr (fun t ht hW => ⟨⟨by rw [w_dm_tr, if_neg c_1, if_neg c_2], by rw [ht]; exact hP9, hD9⟩, hS.F ht⟩) hS.2.2 dX4_drawnMoves_135
        | succ ri ih_i =>
          intro i hi_i ls H locs hl hP hD hS
          have ht_i : i < N := by omega
          refine lv_iload hx hb dX4_drawnMoves_50 (lv_at hl 0 rfl) ?_
          refine lv_iload_n hx hb dX4_drawnMoves_52 rfl (lv_at hl 5 rfl) ?_
          refine xb_ge (tgt := 134) hx hb dX4_drawnMoves_53 (by decide) (fun c9 => absurd (nI_lt (a := i) (b := N) (by omega) (by omega)) c9) (fun c_4 => ?_)
          refine lv_aload_n hx hb dX4_drawnMoves_56 rfl (lv_at hl 4 rfl) ?_
          refine wc1 (n := 0) (As := []) (rest := []) hF (c_X1_next l k (fun _ => a 15) (dm S n (dm0 S T n tr) i).2.1 ) hP hD hS hA hK 15 (ci := 1) rfl rfl ⟨rfl, rfl⟩ uC_X1_next uN_X1 nM_X4_252 uI_X1_next uE_X1_next (by decide +kernel) rfl ⟨Nat.le_of_ble_eq_true rfl, Nat.le_of_ble_eq_true rfl⟩ ⟨Nat.zero_le _, Nat.zero_le _⟩ hl.1 rfl (Nat.le_of_ble_eq_true rfl) dX4_drawnMoves_57 (fun H locs hP hD hS => ?_)
          have hP : va_P k.1 vwCl (xW k a S (dm S n (dm0 S T n tr) i).1 dr (w_X1_next_dr (dm S n (dm0 S T n tr) i).2.1) C F G) H := hP
          have hD : va_D A (xW k a S (dm S n (dm0 S T n tr) i).1 dr (w_X1_next_dr (dm S n (dm0 S T n tr) i).2.1) C F G) := hD
          refine lv_aload_n hx hb dX4_drawnMoves_60 rfl (lv_at hl 3 rfl) ?_
          refine va_get (D := k.1) (ci := 4) (v := .ref (a 1)) (C := RX4) (T := TX4) (N := 10) hx hb hU inlX4 hown hK.1 hP 0 rfl rfl 0 (by decide) (hU _ uF_X4_10) (fun _ h9 => h9) rfl dX4_drawnMoves_61 ?_
          refine va_getN (D := k.1) (ci := 2) (v := .int (S_cells S)) (C := RX2) (T := TX2) (N := 16) hx hb hU inlX2 hown hK.1 hP 1 rfl rfl 12 (by decide) (hK.nf nF_X4_60) (fun _ h9 => h9) rfl dX4_drawnMoves_64 ?_
          refine lv_i2l (v := (Int32.toInt64 (S_cells S))) hx hb dX4_drawnMoves_67 rfl ?_
          refine lv_lrem hx hb dX4_drawnMoves_68 (by rw [hc, nI_l (by omega)]; intro h; have h1 := (pk_lEQ (a := n) (b := 0) (by omega) (by omega)).mp h; omega) ?_
          refine lv_l2i (v := (Int64.toInt32 ((w_X1_next (dm S n (dm0 S T n tr) i).2.1) - (w_X1_next (dm S n (dm0 S T n tr) i).2.1) / (Int32.toInt64 (S_cells S)) * (Int32.toInt64 (S_cells S))))) hx hb dX4_drawnMoves_69 rfl ?_
          refine W.eq (g2 := F0 m 70 ls [.int (nI (djN n (dm S n (dm0 S T n tr) i).2.1))]) (by rw [hc, (dj_spec hn0 hn _).1]; try rfl) ?_
          have hdj : djN n (dm S n (dm0 S T n tr) i).2.1 < n := (dj_spec hn0 hn _).2
          refine lv_istore (lv' := [(7, .int (nI (djN n (dm S n (dm0 S T n tr) i).2.1))), (6, .int (nI i)), (4, .long ((dm S n (dm0 S T n tr) i).2.2.2)), (3, .int (nI ((dm S n (dm0 S T n tr) i).2.2.1))), (0, .ref (a 0)), (1, .ref (a 15)), (2, .int (nI N))]) hx hb dX4_drawnMoves_70 hl (by decide) rfl (fun ls hl => ?_)
          refine lv_aload_n hx hb dX4_drawnMoves_72 rfl (lv_at hl 4 rfl) ?_
          refine va_get (D := k.1) (ci := 4) (v := .ref (a 11)) (C := RX4) (T := TX4) (N := 10) hx hb hU inlX4 hown hK.1 hP 0 rfl rfl 1 (by decide) (hU _ uF_X4_21) (fun _ h9 => h9) rfl dX4_drawnMoves_73 ?_
          refine lv_iload hx hb dX4_drawnMoves_76 (lv_at hl 0 rfl) ?_
          refine wcVN (n := 1) (As := [.int (nI (djN n (dm S n (dm0 S T n tr) i).2.1))]) (rest := []) hF (c_X3_exchange l k a S (dm S n (dm0 S T n tr) i).1 dr (w_X1_next_dr (dm S n (dm0 S T n tr) i).2.1) C F G (djN n (dm S n (dm0 S T n tr) i).2.1) n hn hc (by omega)) hP hD hS hA hK 11 (ci := 3) rfl rfl rfl uC_X3_exchange uN_X3 nM_X4_241 uI_X3_exchange uE_X3_exchange (by decide +kernel) rfl ⟨Nat.le_of_ble_eq_true rfl, Nat.le_of_ble_eq_true rfl⟩ ⟨Nat.zero_le _, Nat.zero_le _⟩ hl.1 rfl (Nat.le_of_ble_eq_true rfl) dX4_drawnMoves_78 (fun H locs hP hD hS => ?_)
          have hP : va_P k.1 vwCl (xW k a S (ex_T S (dm S n (dm0 S T n tr) i).1 n (djN n (dm S n (dm0 S T n tr) i).2.1)) dr (w_X1_next_dr (dm S n (dm0 S T n tr) i).2.1) C F G) H := hP
          have hD : va_D A (xW k a S (ex_T S (dm S n (dm0 S T n tr) i).1 n (djN n (dm S n (dm0 S T n tr) i).2.1)) dr (w_X1_next_dr (dm S n (dm0 S T n tr) i).2.1) C F G) := hD
          refine lv_aload_n hx hb dX4_drawnMoves_81 rfl (lv_at hl 4 rfl) ?_
          refine va_get (D := k.1) (ci := 4) (v := .ref (a 11)) (C := RX4) (T := TX4) (N := 10) hx hb hU inlX4 hown hK.1 hP 0 rfl rfl 1 (by decide) (hU _ uF_X4_21) (fun _ h9 => h9) rfl dX4_drawnMoves_82 ?_
          refine rcVN (n := 0) (As := []) (rest := []) hF (c_X3_price l k a S (ex_T S (dm S n (dm0 S T n tr) i).1 n (djN n (dm S n (dm0 S T n tr) i).2.1)) dr (w_X1_next_dr (dm S n (dm0 S T n tr) i).2.1) C F G  ) (hP) hK 11 (ci := 3) rfl rfl rfl uC_X3_price uN_X3 nM_X4_181 uI_X3_price uE_X3_price (by decide +kernel) rfl ⟨Nat.le_of_ble_eq_true rfl, Nat.le_of_ble_eq_true rfl⟩ ⟨Nat.zero_le _, Nat.zero_le _⟩ hl.1 rfl (Nat.le_of_ble_eq_true rfl) dX4_drawnMoves_85 ?_
          refine lv_lload hx hb dX4_drawnMoves_88 (lv_at hl 2 rfl) ?_
          refine xl_ge (tgt := 119) hx hb dX4_drawnMoves_90 dX4_drawnMoves_91 (by decide) (fun c_5 => ?_) (fun c_5 => ?_)
          · refine lv_aload_n hx hb dX4_drawnMoves_119 rfl (lv_at hl 4 rfl) ?_
            refine va_get (D := k.1) (ci := 4) (v := .ref (a 11)) (C := RX4) (T := TX4) (N := 10) hx hb hU inlX4 hown hK.1 hP 0 rfl rfl 1 (by decide) (hU _ uF_X4_21) (fun _ h9 => h9) rfl dX4_drawnMoves_120 ?_
            refine lv_iload hx hb dX4_drawnMoves_123 (lv_at hl 0 rfl) ?_
            refine wcVN (n := 1) (As := [.int (nI (djN n (dm S n (dm0 S T n tr) i).2.1))]) (rest := []) hF (c_X3_exchange l k a S (ex_T S (dm S n (dm0 S T n tr) i).1 n (djN n (dm S n (dm0 S T n tr) i).2.1)) dr (w_X1_next_dr (dm S n (dm0 S T n tr) i).2.1) C F G (djN n (dm S n (dm0 S T n tr) i).2.1) n hn hc (by omega)) hP hD hS hA hK 11 (ci := 3) rfl rfl rfl uC_X3_exchange uN_X3 nM_X4_241 uI_X3_exchange uE_X3_exchange (by decide +kernel) rfl ⟨Nat.le_of_ble_eq_true rfl, Nat.le_of_ble_eq_true rfl⟩ ⟨Nat.zero_le _, Nat.zero_le _⟩ hl.1 rfl (Nat.le_of_ble_eq_true rfl) dX4_drawnMoves_125 (fun H locs hP hD hS => ?_)
            have hP : va_P k.1 vwCl (xW k a S (ex_T S (ex_T S (dm S n (dm0 S T n tr) i).1 n (djN n (dm S n (dm0 S T n tr) i).2.1)) n (djN n (dm S n (dm0 S T n tr) i).2.1)) dr (w_X1_next_dr (dm S n (dm0 S T n tr) i).2.1) C F G) H := hP
            have hD : va_D A (xW k a S (ex_T S (ex_T S (dm S n (dm0 S T n tr) i).1 n (djN n (dm S n (dm0 S T n tr) i).2.1)) n (djN n (dm S n (dm0 S T n tr) i).2.1)) dr (w_X1_next_dr (dm S n (dm0 S T n tr) i).2.1) C F G) := hD
            refine lv_iinc (v := nI (i + 1)) (lv' := [(6, .int (nI (i + 1))), (7, .int (nI (djN n (dm S n (dm0 S T n tr) i).2.1))), (4, .long ((dm S n (dm0 S T n tr) i).2.2.2)), (3, .int (nI ((dm S n (dm0 S T n tr) i).2.2.1))), (0, .ref (a 0)), (1, .ref (a 15)), (2, .int (nI N))]) hx hb dX4_drawnMoves_128 hl (k := 1) rfl (nI_add i 1) (by decide) rfl (fun ls hl => ?_)
            refine lv_goto (tgt := 50) hx hb dX4_drawnMoves_131 (by decide) ?_
            have hq4 : (dm S n (dm0 S T n tr) i).2.2.2 = (dm S n (dm0 S T n tr) (i + 1)).2.2.2 := by rw [dm, dms, if_neg c_5]
            rw [hq4] at hl
            have hq3 : ((dm S n (dm0 S T n tr) i).2.2.1) = (dm S n (dm0 S T n tr) (i + 1)).2.2.1 := by rw [dm, dms, if_neg c_5]
            rw [hq3] at hl
            have hq1 : (ex_T S (ex_T S (dm S n (dm0 S T n tr) i).1 n (djN n (dm S n (dm0 S T n tr) i).2.1)) n (djN n (dm S n (dm0 S T n tr) i).2.1)) = (dm S n (dm0 S T n tr) (i + 1)).1 := by rw [dm, dms, if_neg c_5]
            rw [hq1] at hP hD
            have hq2 : (w_X1_next_dr (dm S n (dm0 S T n tr) i).2.1) = (dm S n (dm0 S T n tr) (i + 1)).2.1 := by rw [dm, dms, if_neg c_5]
            rw [hq2] at hP hD
            exact ih_i (i + 1) (by omega) ls _ _ (lv_sub hl [0, 2, 3, 4, 5, 6] rfl) hP hD hS
          · refine lv_aload_n hx hb dX4_drawnMoves_94 rfl (lv_at hl 4 rfl) ?_
            refine va_get (D := k.1) (ci := 4) (v := .ref (a 11)) (C := RX4) (T := TX4) (N := 10) hx hb hU inlX4 hown hK.1 hP 0 rfl rfl 1 (by decide) (hU _ uF_X4_21) (fun _ h9 => h9) rfl dX4_drawnMoves_95 ?_
            refine rcVN (n := 0) (As := []) (rest := []) hF (c_X3_stands l k a S (ex_T S (dm S n (dm0 S T n tr) i).1 n (djN n (dm S n (dm0 S T n tr) i).2.1)) dr (w_X1_next_dr (dm S n (dm0 S T n tr) i).2.1) C F G  ) (hP) hK 11 (ci := 3) rfl rfl rfl uC_X3_stands uN_X3 nM_X4_248 uI_X3_stands uE_X3_stands (by decide +kernel) rfl ⟨Nat.le_of_ble_eq_true rfl, Nat.le_of_ble_eq_true rfl⟩ ⟨Nat.zero_le _, Nat.zero_le _⟩ hl.1 rfl (Nat.le_of_ble_eq_true rfl) dX4_drawnMoves_98 ?_
            refine lv_if_eq (tgt := 119) hx hb dX4_drawnMoves_101 (by decide) (fun c_6 => ?_) (fun c_6 => ?_)
            · refine lv_aload_n hx hb dX4_drawnMoves_119 rfl (lv_at hl 4 rfl) ?_
              refine va_get (D := k.1) (ci := 4) (v := .ref (a 11)) (C := RX4) (T := TX4) (N := 10) hx hb hU inlX4 hown hK.1 hP 0 rfl rfl 1 (by decide) (hU _ uF_X4_21) (fun _ h9 => h9) rfl dX4_drawnMoves_120 ?_
              refine lv_iload hx hb dX4_drawnMoves_123 (lv_at hl 0 rfl) ?_
              refine wcVN (n := 1) (As := [.int (nI (djN n (dm S n (dm0 S T n tr) i).2.1))]) (rest := []) hF (c_X3_exchange l k a S (ex_T S (dm S n (dm0 S T n tr) i).1 n (djN n (dm S n (dm0 S T n tr) i).2.1)) dr (w_X1_next_dr (dm S n (dm0 S T n tr) i).2.1) C F G (djN n (dm S n (dm0 S T n tr) i).2.1) n hn hc (by omega)) hP hD hS hA hK 11 (ci := 3) rfl rfl rfl uC_X3_exchange uN_X3 nM_X4_241 uI_X3_exchange uE_X3_exchange (by decide +kernel) rfl ⟨Nat.le_of_ble_eq_true rfl, Nat.le_of_ble_eq_true rfl⟩ ⟨Nat.zero_le _, Nat.zero_le _⟩ hl.1 rfl (Nat.le_of_ble_eq_true rfl) dX4_drawnMoves_125 (fun H locs hP hD hS => ?_)
              have hP : va_P k.1 vwCl (xW k a S (ex_T S (ex_T S (dm S n (dm0 S T n tr) i).1 n (djN n (dm S n (dm0 S T n tr) i).2.1)) n (djN n (dm S n (dm0 S T n tr) i).2.1)) dr (w_X1_next_dr (dm S n (dm0 S T n tr) i).2.1) C F G) H := hP
              have hD : va_D A (xW k a S (ex_T S (ex_T S (dm S n (dm0 S T n tr) i).1 n (djN n (dm S n (dm0 S T n tr) i).2.1)) n (djN n (dm S n (dm0 S T n tr) i).2.1)) dr (w_X1_next_dr (dm S n (dm0 S T n tr) i).2.1) C F G) := hD
              refine lv_iinc (v := nI (i + 1)) (lv' := [(6, .int (nI (i + 1))), (7, .int (nI (djN n (dm S n (dm0 S T n tr) i).2.1))), (4, .long ((dm S n (dm0 S T n tr) i).2.2.2)), (3, .int (nI ((dm S n (dm0 S T n tr) i).2.2.1))), (0, .ref (a 0)), (1, .ref (a 15)), (2, .int (nI N))]) hx hb dX4_drawnMoves_128 hl (k := 1) rfl (nI_add i 1) (by decide) rfl (fun ls hl => ?_)
              refine lv_goto (tgt := 50) hx hb dX4_drawnMoves_131 (by decide) ?_
              have hq4 : (dm S n (dm0 S T n tr) i).2.2.2 = (dm S n (dm0 S T n tr) (i + 1)).2.2.2 := by rw [dm, dms, if_pos c_5, if_pos c_6]
              rw [hq4] at hl
              have hq3 : ((dm S n (dm0 S T n tr) i).2.2.1) = (dm S n (dm0 S T n tr) (i + 1)).2.2.1 := by rw [dm, dms, if_pos c_5, if_pos c_6]
              rw [hq3] at hl
              have hq1 : (ex_T S (ex_T S (dm S n (dm0 S T n tr) i).1 n (djN n (dm S n (dm0 S T n tr) i).2.1)) n (djN n (dm S n (dm0 S T n tr) i).2.1)) = (dm S n (dm0 S T n tr) (i + 1)).1 := by rw [dm, dms, if_pos c_5, if_pos c_6]
              rw [hq1] at hP hD
              have hq2 : (w_X1_next_dr (dm S n (dm0 S T n tr) i).2.1) = (dm S n (dm0 S T n tr) (i + 1)).2.1 := by rw [dm, dms, if_pos c_5, if_pos c_6]
              rw [hq2] at hP hD
              exact ih_i (i + 1) (by omega) ls _ _ (lv_sub hl [0, 2, 3, 4, 5, 6] rfl) hP hD hS
            · refine lv_aload_n hx hb dX4_drawnMoves_104 rfl (lv_at hl 4 rfl) ?_
              refine va_get (D := k.1) (ci := 4) (v := .ref (a 11)) (C := RX4) (T := TX4) (N := 10) hx hb hU inlX4 hown hK.1 hP 0 rfl rfl 1 (by decide) (hU _ uF_X4_21) (fun _ h9 => h9) rfl dX4_drawnMoves_105 ?_
              refine rcVN (n := 0) (As := []) (rest := []) hF (c_X3_price l k a S (ex_T S (dm S n (dm0 S T n tr) i).1 n (djN n (dm S n (dm0 S T n tr) i).2.1)) dr (w_X1_next_dr (dm S n (dm0 S T n tr) i).2.1) C F G  ) (hP) hK 11 (ci := 3) rfl rfl rfl uC_X3_price uN_X3 nM_X4_181 uI_X3_price uE_X3_price (by decide +kernel) rfl ⟨Nat.le_of_ble_eq_true rfl, Nat.le_of_ble_eq_true rfl⟩ ⟨Nat.zero_le _, Nat.zero_le _⟩ hl.1 rfl (Nat.le_of_ble_eq_true rfl) dX4_drawnMoves_108 ?_
              refine lv_lstore (lv' := [(4, .long (w_X3_price S (ex_T S (dm S n (dm0 S T n tr) i).1 n (djN n (dm S n (dm0 S T n tr) i).2.1)))), (7, .int (nI (djN n (dm S n (dm0 S T n tr) i).2.1))), (6, .int (nI i)), (3, .int (nI ((dm S n (dm0 S T n tr) i).2.2.1))), (0, .ref (a 0)), (1, .ref (a 15)), (2, .int (nI N))]) hx hb dX4_drawnMoves_111 hl (by decide) rfl (fun ls hl => ?_)
              refine lv_iinc (v := nI (((dm S n (dm0 S T n tr) i).2.2.1) + 1)) (lv' := [(3, .int (nI (((dm S n (dm0 S T n tr) i).2.2.1) + 1))), (4, .long (w_X3_price S (ex_T S (dm S n (dm0 S T n tr) i).1 n (djN n (dm S n (dm0 S T n tr) i).2.1)))), (7, .int (nI (djN n (dm S n (dm0 S T n tr) i).2.1))), (6, .int (nI i)), (0, .ref (a 0)), (1, .ref (a 15)), (2, .int (nI N))]) hx hb dX4_drawnMoves_113 hl (k := 3) rfl (nI_add ((dm S n (dm0 S T n tr) i).2.2.1) 1) (by decide) rfl (fun ls hl => ?_)
              refine lv_goto (tgt := 128) hx hb dX4_drawnMoves_116 (by decide) ?_
              refine lv_iinc (v := nI (i + 1)) (lv' := [(6, .int (nI (i + 1))), (3, .int (nI (((dm S n (dm0 S T n tr) i).2.2.1) + 1))), (4, .long (w_X3_price S (ex_T S (dm S n (dm0 S T n tr) i).1 n (djN n (dm S n (dm0 S T n tr) i).2.1)))), (7, .int (nI (djN n (dm S n (dm0 S T n tr) i).2.1))), (0, .ref (a 0)), (1, .ref (a 15)), (2, .int (nI N))]) hx hb dX4_drawnMoves_128 hl (k := 3) rfl (nI_add i 1) (by decide) rfl (fun ls hl => ?_)
              refine lv_goto (tgt := 50) hx hb dX4_drawnMoves_131 (by decide) ?_
              have hq4 : (w_X3_price S (ex_T S (dm S n (dm0 S T n tr) i).1 n (djN n (dm S n (dm0 S T n tr) i).2.1))) = (dm S n (dm0 S T n tr) (i + 1)).2.2.2 := by rw [dm, dms, if_pos c_5, if_neg c_6]
              rw [hq4] at hl
              have hq3 : (((dm S n (dm0 S T n tr) i).2.2.1) + 1) = (dm S n (dm0 S T n tr) (i + 1)).2.2.1 := by rw [dm, dms, if_pos c_5, if_neg c_6]
              rw [hq3] at hl
              have hq1 : (ex_T S (dm S n (dm0 S T n tr) i).1 n (djN n (dm S n (dm0 S T n tr) i).2.1)) = (dm S n (dm0 S T n tr) (i + 1)).1 := by rw [dm, dms, if_pos c_5, if_neg c_6]
              rw [hq1] at hP hD
              have hq2 : (w_X1_next_dr (dm S n (dm0 S T n tr) i).2.1) = (dm S n (dm0 S T n tr) (i + 1)).2.1 := by rw [dm, dms, if_pos c_5, if_neg c_6]
              rw [hq2] at hP hD
              exact ih_i (i + 1) (by omega) ls _ _ (lv_sub hl [0, 2, 1, 4, 5, 6] rfl) hP hD hS
      exact loop_i N 0 (by omega) ls _ _ (lv_sub hl [0, 1, 2, 3, 4, 5] rfl) hP hD hS
    · refine lv_iconst (v := (-1)) hx hb dX4_drawnMoves_34 (by decide) ?_
      have hP9 : va_P k.1 vwCl (xW k a S (w_dmT_tr S T tr n N) dr (w_dmx_tr S T tr n N) C F G) H := by rw [w_dmT_tr, if_neg c_1, if_pos c_2]; rw [w_dmx_tr, if_neg c_1, if_pos c_2]; exact hP
      have hD9 : va_D A (xW k a S (w_dmT_tr S T tr n N) dr (w_dmx_tr S T tr n N) C F G) := by rw [w_dmT_tr, if_neg c_1, if_pos c_2]; rw [w_dmx_tr, if_neg c_1, if_pos c_2]; exact hD
      exact W.iret (v := (-1)) hx hb hr (fun t ht hW => ⟨⟨by rw [w_dm_tr, if_neg c_1, if_pos c_2], by rw [ht]; exact hP9, hD9⟩, hS.F ht⟩) hS.2.2 dX4_drawnMoves_35

def fes (S : SeaT) (n : Nat) (pr : Int64) (y : TalT × Int32) (i : Nat) : TalT × Int32 :=
  if bt (w_X2_freeSet S) i then
    (if w_X3_price S (ex_T S y.1 n i) = pr then
      (if w_X3_stands S (ex_T S y.1 n i) = 0 then (ex_T S (ex_T S y.1 n i) n i, y.2) else (ex_T S (ex_T S y.1 n i) n i, y.2 ||| (1 <<< (nI i &&& 31))))
     else (ex_T S (ex_T S y.1 n i) n i, y.2))
  else y
def fe (S : SeaT) (n : Nat) (pr : Int64) (x : TalT) : Nat → TalT × Int32
  | 0 => (x, 0)
  | i + 1 => fes S n pr (fe S n pr x i) i

set_option maxHeartbeats 4000000 in
set_option maxRecDepth 100000 in
theorem c_X4_findExchangeable (l : Launch) (k : KT) (a : Nat → Nat) (S : SeaT) (T : TalT) (dr : Int64) (tr : Int64) (C : ChoT) (F : (Nat → Int32)) (G : GoT)  (n : Nat) (hn : n ≤ 24) (hc : S_cells S = nI n) : MW l yX4_findExchangeable cX4_findExchangeable 6 (some .int) (rz 4 94) k [.ref (a 0)] (xW k a S T dr tr C F G) (some (.int ((fe S n (w_X3_price S (bgT S T n (C_cells C) n)) (bgT S T n (C_cells C) n) n).2))) (xW k a S (fe S n (w_X3_price S (bgT S T n (C_cells C) n)) (bgT S T n (C_cells C) n) n).1 dr tr C F G) := by
  intro sz
  refine Met.ofW (cc := cX4_findExchangeable) (maxL := 6) (ret := (some .int)) (by decide) rfl ?_
  intro p e s m args below meth c s₁ B hml hv
  obtain ⟨rfl, hsz, hP, hK, hD0⟩ := hv
  have hx := B.exec
  have hb := B.bytes
  have hr := B.returns
  have hU : ∀ w ∈ wsL_law, w.before [.ref (a 0)].toArray s = true := fun w h => atoms_spec (ws := Cond.code yX4_findExchangeable cX4_findExchangeable 6 (some .int) :: wsL_law) B.pre w (List.mem_cons_of_mem _ h)
  have hown : s.vm.findClass RX4 = some m.cls := findClass_of_methodNamed B.named
  have hlocks := B.notSynchronized
  have hF : CF p m c cX4_findExchangeable 6 s [.ref (a 0)].toArray RX4 := ⟨hx, hb, hml, hown, hU⟩
  subst hsz
  have hD := hD0.self (sz := s.heap.size)
  generalize hAe : va_A (xW k a S T dr tr C F G) s.heap.size = A at hD ⊢
  have hA : ∀ q : Nat, s.heap.size ≤ q → A q := fun q h => by rw [← hAe]; exact Or.inr h
  have hS : va_S A s.heap s.heap [] := va_S.rf
  have hl := lv_entry ([.ref (a 0)] : List Value) (n := 6) (Nat.le_of_ble_eq_true rfl)
  rw [lg_entry_eq]
  generalize (lg_sl ([.ref (a 0)] : List Value) ++ List.replicate (6 - (lg_sl ([.ref (a 0)] : List Value)).length) Slot.unset).toArray = ls at hl ⊢
  have hl : lv_has ls 6 [(0, .ref (a 0))] := hl
  refine lv_aload_n hx hb dX4_findExchangeable_0 rfl (lv_at hl 0 rfl) ?_
  refine va_get (D := k.1) (ci := 4) (v := .ref (a 1)) (C := RX4) (T := TX4) (N := 10) hx hb hU inlX4 hown hK.1 hP 0 rfl rfl 0 (by decide) (hU _ uF_X4_10) (fun _ h9 => h9) rfl dX4_findExchangeable_1 ?_
  refine rcVN (n := 0) (As := []) (rest := []) hF (c_X2_freeSet l k a S T dr tr C F G  ) (hP) hK 1 (ci := 2) rfl rfl rfl uC_X2_freeSet uN_X2 nM_X4_139 uI_X2_freeSet uE_X2_freeSet (by decide +kernel) rfl ⟨Nat.le_of_ble_eq_true rfl, Nat.le_of_ble_eq_true rfl⟩ ⟨Nat.zero_le _, Nat.zero_le _⟩ hl.1 rfl (Nat.le_of_ble_eq_true rfl) dX4_findExchangeable_4 ?_
  refine lv_istore_n (lv' := [(1, .int (w_X2_freeSet S)), (0, .ref (a 0))]) hx hb dX4_findExchangeable_7 rfl hl (by decide) rfl (fun ls hl => ?_)
  refine lv_iconst (v := 0) hx hb dX4_findExchangeable_8 (by decide) ?_
  refine lv_istore_n (lv' := [(2, .int 0), (1, .int (w_X2_freeSet S)), (0, .ref (a 0))]) hx hb dX4_findExchangeable_9 rfl hl (by decide) rfl (fun ls hl => ?_)
  refine lv_aload_n hx hb dX4_findExchangeable_10 rfl (lv_at hl 2 rfl) ?_
  refine va_get (D := k.1) (ci := 4) (v := .ref (a 11)) (C := RX4) (T := TX4) (N := 10) hx hb hU inlX4 hown hK.1 hP 0 rfl rfl 1 (by decide) (hU _ uF_X4_21) (fun _ h9 => h9) rfl dX4_findExchangeable_11 ?_
  refine lv_aload_n hx hb dX4_findExchangeable_14 rfl (lv_at hl 2 rfl) ?_
  refine va_get (D := k.1) (ci := 4) (v := .ref (a 16)) (C := RX4) (T := TX4) (N := 10) hx hb hU inlX4 hown hK.1 hP 0 rfl rfl 4 (by decide) (hU _ uF_X4_42) (fun _ h9 => h9) rfl dX4_findExchangeable_15 ?_
  refine va_getN (D := k.1) (ci := 0) (v := .int (C_cells C)) (C := RX0) (T := TX0) (N := 3) hx hb hU inlX0 hown hK.1 hP 16 rfl rfl 1 (by decide) (hK.nf nF_X4_119) (fun _ h9 => h9) rfl dX4_findExchangeable_18 ?_
  refine wcVN (n := 1) (As := [.int (C_cells C)]) (rest := []) hF (c_X3_begin l k a S T dr tr C F G (C_cells C) n hn hc) hP hD hS hA hK 11 (ci := 3) rfl rfl rfl uC_X3_begin uN_X3 nM_X4_160 uI_X3_begin uE_X3_begin (by decide +kernel) rfl ⟨Nat.le_of_ble_eq_true rfl, Nat.le_of_ble_eq_true rfl⟩ ⟨Nat.zero_le _, Nat.zero_le _⟩ hl.1 rfl (Nat.le_of_ble_eq_true rfl) dX4_findExchangeable_21 (fun H locs hP hD hS => ?_)
  have hP : va_P k.1 vwCl (xW k a S (bgT S T n (C_cells C) n) dr tr C F G) H := hP
  have hD : va_D A (xW k a S (bgT S T n (C_cells C) n) dr tr C F G) := hD
  refine lv_aload_n hx hb dX4_findExchangeable_24 rfl (lv_at hl 2 rfl) ?_
  refine va_get (D := k.1) (ci := 4) (v := .ref (a 11)) (C := RX4) (T := TX4) (N := 10) hx hb hU inlX4 hown hK.1 hP 0 rfl rfl 1 (by decide) (hU _ uF_X4_21) (fun _ h9 => h9) rfl dX4_findExchangeable_25 ?_
  refine rcVN (n := 0) (As := []) (rest := []) hF (c_X3_price l k a S (bgT S T n (C_cells C) n) dr tr C F G  ) (hP) hK 11 (ci := 3) rfl rfl rfl uC_X3_price uN_X3 nM_X4_181 uI_X3_price uE_X3_price (by decide +kernel) rfl ⟨Nat.le_of_ble_eq_true rfl, Nat.le_of_ble_eq_true rfl⟩ ⟨Nat.zero_le _, Nat.zero_le _⟩ hl.1 rfl (Nat.le_of_ble_eq_true rfl) dX4_findExchangeable_28 ?_
  refine lv_lstore_n (lv' := [(3, .long (w_X3_price S (bgT S T n (C_cells C) n))), (2, .int 0), (1, .int (w_X2_freeSet S)), (0, .ref (a 0))]) hx hb dX4_findExchangeable_31 rfl hl (by decide) rfl (fun ls hl => ?_)
  refine lv_iconst (v := 0) hx hb dX4_findExchangeable_32 (by decide) ?_
  refine lv_istore (lv' := [(5, .int 0), (3, .long (w_X3_price S (bgT S T n (C_cells C) n))), (2, .int 0), (1, .int (w_X2_freeSet S)), (0, .ref (a 0))]) hx hb dX4_findExchangeable_33 hl (by decide) rfl (fun ls hl => ?_)
  have loop_i : ∀ (ri i : Nat), i + ri * 1 = n → ∀ (ls : Array Slot) (H : Heap) (locs : List Loc) , lv_has ls 6 [(5, .int (nI i)), (3, .long (w_X3_price S (bgT S T n (C_cells C) n))), (2, .int ((fe S n (w_X3_price S (bgT S T n (C_cells C) n)) (bgT S T n (C_cells C) n) i).2)), (1, .int (w_X2_freeSet S)), (0, .ref (a 0))] → va_P k.1 vwCl (xW k a S (fe S n (w_X3_price S (bgT S T n (C_cells C) n)) (bgT S T n (C_cells C) n) i).1 dr tr C F G) H → va_D A (xW k a S (fe S n (w_X3_price S (bgT S T n (C_cells C) n)) (bgT S T n (C_cells C) n) i).1 dr tr C F G) → va_S A s.heap H locs → WW p l e s m below meth c yX4_findExchangeable cX4_findExchangeable 6 (some .int) (rz 4 94) [.ref (a 0)] (some (.int ((fe S n (w_X3_price S (bgT S T n (C_cells C) n)) (bgT S T n (C_cells C) n) n).2))) k (xW k a S (fe S n (w_X3_price S (bgT S T n (C_cells C) n)) (bgT S T n (C_cells C) n) n).1 dr tr C F G) A H locs (F0 m 35 ls []) := by
    intro ri
    induction ri with
    | zero =>
      intro i hi_i ls H locs hl hP hD hS
      have he_i : n = i := by omega
      subst he_i
      refine lv_iload hx hb dX4_findExchangeable_35 (lv_at hl 0 rfl) ?_
      refine lv_aload_n hx hb dX4_findExchangeable_37 rfl (lv_at hl 4 rfl) ?_
      refine va_get (D := k.1) (ci := 4) (v := .ref (a 1)) (C := RX4) (T := TX4) (N := 10) hx hb hU inlX4 hown hK.1 hP 0 rfl rfl 0 (by decide) (hU _ uF_X4_10) (fun _ h9 => h9) rfl dX4_findExchangeable_38 ?_
      refine va_getN (D := k.1) (ci := 2) (v := .int (S_cells S)) (C := RX2) (T := TX2) (N := 16) hx hb hU inlX2 hown hK.1 hP 1 rfl rfl 12 (by decide) (hK.nf nF_X4_60) (fun _ h9 => h9) rfl dX4_findExchangeable_41 ?_
      refine xb_ge (tgt := 109) hx hb dX4_findExchangeable_44 (by decide) (fun c_1 => ?_) (fun c9 => absurd c9 (by rw [hc]; exact nI_nlt (a := n) (b := n) (Nat.le_refl _) (by omega)))
      refine lv_iload_n hx hb dX4_findExchangeable_109 rfl (lv_at hl 2 rfl) ?_
      have hP9 : va_P k.1 vwCl (xW k a S (fe S n (w_X3_price S (bgT S T n (C_cells C) n)) (bgT S T n (C_cells C) n) n).1 dr tr C F G) H := hP
      have hD9 : va_D A (xW k a S (fe S n (w_X3_price S (bgT S T n (C_cells C) n)) (bgT S T n (C_cells C) n) n).1 dr tr C F G) := hD
      exact W.iret (v := ((fe S n (w_X3_price S (bgT S T n (C_cells C) n)) (bgT S T n (C_cells C) n) n).2)) hx hb hr (fun t ht hW => ⟨⟨rfl, by rw [ht]; exact hP9, hD9⟩, hS.F ht⟩) hS.2.2 dX4_findExchangeable_110
    | succ ri ih_i =>
      intro i hi_i ls H locs hl hP hD hS
      have ht_i : i < n := by omega
      refine lv_iload hx hb dX4_findExchangeable_35 (lv_at hl 0 rfl) ?_
      refine lv_aload_n hx hb dX4_findExchangeable_37 rfl (lv_at hl 4 rfl) ?_
      refine va_get (D := k.1) (ci := 4) (v := .ref (a 1)) (C := RX4) (T := TX4) (N := 10) hx hb hU inlX4 hown hK.1 hP 0 rfl rfl 0 (by decide) (hU _ uF_X4_10) (fun _ h9 => h9) rfl dX4_findExchangeable_38 ?_
      refine va_getN (D := k.1) (ci := 2) (v := .int (S_cells S)) (C := RX2) (T := TX2) (N := 16) hx hb hU inlX2 hown hK.1 hP 1 rfl rfl 12 (by decide) (hK.nf nF_X4_60) (fun _ h9 => h9) rfl dX4_findExchangeable_41 ?_
      refine xb_ge (tgt := 109) hx hb dX4_findExchangeable_44 (by decide) (fun c9 => absurd (by rw [hc]; exact nI_lt (a := i) (b := n) (by omega) (by omega)) c9) (fun c_2 => ?_)
      refine lv_iload_n hx hb dX4_findExchangeable_47 rfl (lv_at hl 3 rfl) ?_
      refine lv_iload hx hb dX4_findExchangeable_48 (lv_at hl 0 rfl) ?_
      refine rcS (n := 2) (As := [.int (w_X2_freeSet S), .int (nI i)]) (rest := []) hF (c_X4_hasBit l k (w_X2_freeSet S) (nI i)) (hP.sub (ws' := []) [] rfl) hK uC_X4_hasBit uN_X4 uM_X4_120 uS_X4_hasBit (by decide +kernel) rfl ⟨Nat.le_of_ble_eq_true rfl, Nat.le_of_ble_eq_true rfl⟩ ⟨Nat.zero_le _, Nat.zero_le _⟩ hl.1 rfl (Nat.le_of_ble_eq_true rfl) dX4_findExchangeable_50 ?_
      refine lv_if_eq (tgt := 103) hx hb dX4_findExchangeable_53 (by decide) (fun c_3 => ?_) (fun c_3 => ?_)
      · refine lv_iinc (v := nI (i + 1)) (lv' := [(5, .int (nI (i + 1))), (3, .long (w_X3_price S (bgT S T n (C_cells C) n))), (2, .int ((fe S n (w_X3_price S (bgT S T n (C_cells C) n)) (bgT S T n (C_cells C) n) i).2)), (1, .int (w_X2_freeSet S)), (0, .ref (a 0))]) hx hb dX4_findExchangeable_103 hl (k := 0) rfl (nI_add i 1) (by decide) rfl (fun ls hl => ?_)
        refine lv_goto (tgt := 35) hx hb dX4_findExchangeable_106 (by decide) ?_
        have eb : bt (w_X2_freeSet S) i = false := (hb0 (w_X2_freeSet S) (by omega)).mp c_3
        have hq2 : (fe S n (w_X3_price S (bgT S T n (C_cells C) n)) (bgT S T n (C_cells C) n) i).2 = (fe S n (w_X3_price S (bgT S T n (C_cells C) n)) (bgT S T n (C_cells C) n) (i + 1)).2 := by rw [fe, fes, if_neg (by rw [eb]; decide)]
        rw [hq2] at hl
        have hq1 : (fe S n (w_X3_price S (bgT S T n (C_cells C) n)) (bgT S T n (C_cells C) n) i).1 = (fe S n (w_X3_price S (bgT S T n (C_cells C) n)) (bgT S T n (C_cells C) n) (i + 1)).1 := by rw [fe, fes, if_neg (by rw [eb]; decide)]
        rw [hq1] at hP hD
        exact ih_i (i + 1) (by omega) ls _ _ (lv_sub hl [0, 1, 2, 3, 4] rfl) hP hD hS
      · refine lv_aload_n hx hb dX4_findExchangeable_56 rfl (lv_at hl 4 rfl) ?_
        refine va_get (D := k.1) (ci := 4) (v := .ref (a 11)) (C := RX4) (T := TX4) (N := 10) hx hb hU inlX4 hown hK.1 hP 0 rfl rfl 1 (by decide) (hU _ uF_X4_21) (fun _ h9 => h9) rfl dX4_findExchangeable_57 ?_
        refine lv_iload hx hb dX4_findExchangeable_60 (lv_at hl 0 rfl) ?_
        refine wcVN (n := 1) (As := [.int (nI i)]) (rest := []) hF (c_X3_exchange l k a S (fe S n (w_X3_price S (bgT S T n (C_cells C) n)) (bgT S T n (C_cells C) n) i).1 dr tr C F G i n hn hc (by omega)) hP hD hS hA hK 11 (ci := 3) rfl rfl rfl uC_X3_exchange uN_X3 nM_X4_241 uI_X3_exchange uE_X3_exchange (by decide +kernel) rfl ⟨Nat.le_of_ble_eq_true rfl, Nat.le_of_ble_eq_true rfl⟩ ⟨Nat.zero_le _, Nat.zero_le _⟩ hl.1 rfl (Nat.le_of_ble_eq_true rfl) dX4_findExchangeable_62 (fun H locs hP hD hS => ?_)
        have hP : va_P k.1 vwCl (xW k a S (ex_T S (fe S n (w_X3_price S (bgT S T n (C_cells C) n)) (bgT S T n (C_cells C) n) i).1 n i) dr tr C F G) H := hP
        have hD : va_D A (xW k a S (ex_T S (fe S n (w_X3_price S (bgT S T n (C_cells C) n)) (bgT S T n (C_cells C) n) i).1 n i) dr tr C F G) := hD
        refine lv_aload_n hx hb dX4_findExchangeable_65 rfl (lv_at hl 4 rfl) ?_
        refine va_get (D := k.1) (ci := 4) (v := .ref (a 11)) (C := RX4) (T := TX4) (N := 10) hx hb hU inlX4 hown hK.1 hP 0 rfl rfl 1 (by decide) (hU _ uF_X4_21) (fun _ h9 => h9) rfl dX4_findExchangeable_66 ?_
        refine rcVN (n := 0) (As := []) (rest := []) hF (c_X3_price l k a S (ex_T S (fe S n (w_X3_price S (bgT S T n (C_cells C) n)) (bgT S T n (C_cells C) n) i).1 n i) dr tr C F G  ) (hP) hK 11 (ci := 3) rfl rfl rfl uC_X3_price uN_X3 nM_X4_181 uI_X3_price uE_X3_price (by decide +kernel) rfl ⟨Nat.le_of_ble_eq_true rfl, Nat.le_of_ble_eq_true rfl⟩ ⟨Nat.zero_le _, Nat.zero_le _⟩ hl.1 rfl (Nat.le_of_ble_eq_true rfl) dX4_findExchangeable_69 ?_
        refine lv_lload_n hx hb dX4_findExchangeable_72 rfl (lv_at hl 1 rfl) ?_
        refine xl_ne (tgt := 94) hx hb dX4_findExchangeable_73 dX4_findExchangeable_74 (by decide) (fun c_4 => ?_) (fun c_4 => ?_)
        · refine lv_aload_n hx hb dX4_findExchangeable_94 rfl (lv_at hl 4 rfl) ?_
          refine va_get (D := k.1) (ci := 4) (v := .ref (a 11)) (C := RX4) (T := TX4) (N := 10) hx hb hU inlX4 hown hK.1 hP 0 rfl rfl 1 (by decide) (hU _ uF_X4_21) (fun _ h9 => h9) rfl dX4_findExchangeable_95 ?_
          refine lv_iload hx hb dX4_findExchangeable_98 (lv_at hl 0 rfl) ?_
          refine wcVN (n := 1) (As := [.int (nI i)]) (rest := []) hF (c_X3_exchange l k a S (ex_T S (fe S n (w_X3_price S (bgT S T n (C_cells C) n)) (bgT S T n (C_cells C) n) i).1 n i) dr tr C F G i n hn hc (by omega)) hP hD hS hA hK 11 (ci := 3) rfl rfl rfl uC_X3_exchange uN_X3 nM_X4_241 uI_X3_exchange uE_X3_exchange (by decide +kernel) rfl ⟨Nat.le_of_ble_eq_true rfl, Nat.le_of_ble_eq_true rfl⟩ ⟨Nat.zero_le _, Nat.zero_le _⟩ hl.1 rfl (Nat.le_of_ble_eq_true rfl) dX4_findExchangeable_100 (fun H locs hP hD hS => ?_)
          have hP : va_P k.1 vwCl (xW k a S (ex_T S (ex_T S (fe S n (w_X3_price S (bgT S T n (C_cells C) n)) (bgT S T n (C_cells C) n) i).1 n i) n i) dr tr C F G) H := hP
          have hD : va_D A (xW k a S (ex_T S (ex_T S (fe S n (w_X3_price S (bgT S T n (C_cells C) n)) (bgT S T n (C_cells C) n) i).1 n i) n i) dr tr C F G) := hD
          refine lv_iinc (v := nI (i + 1)) (lv' := [(5, .int (nI (i + 1))), (3, .long (w_X3_price S (bgT S T n (C_cells C) n))), (2, .int ((fe S n (w_X3_price S (bgT S T n (C_cells C) n)) (bgT S T n (C_cells C) n) i).2)), (1, .int (w_X2_freeSet S)), (0, .ref (a 0))]) hx hb dX4_findExchangeable_103 hl (k := 0) rfl (nI_add i 1) (by decide) rfl (fun ls hl => ?_)
          refine lv_goto (tgt := 35) hx hb dX4_findExchangeable_106 (by decide) ?_
          have eb : bt (w_X2_freeSet S) i = true := (hb1 (w_X2_freeSet S) (by omega)).mp c_3
          have hq2 : (fe S n (w_X3_price S (bgT S T n (C_cells C) n)) (bgT S T n (C_cells C) n) i).2 = (fe S n (w_X3_price S (bgT S T n (C_cells C) n)) (bgT S T n (C_cells C) n) (i + 1)).2 := by rw [fe, fes, if_pos eb, if_neg c_4]
          rw [hq2] at hl
          have hq1 : (ex_T S (ex_T S (fe S n (w_X3_price S (bgT S T n (C_cells C) n)) (bgT S T n (C_cells C) n) i).1 n i) n i) = (fe S n (w_X3_price S (bgT S T n (C_cells C) n)) (bgT S T n (C_cells C) n) (i + 1)).1 := by rw [fe, fes, if_pos eb, if_neg c_4]
          rw [hq1] at hP hD
          exact ih_i (i + 1) (by omega) ls _ _ (lv_sub hl [0, 1, 2, 3, 4] rfl) hP hD hS
        · refine lv_aload_n hx hb dX4_findExchangeable_77 rfl (lv_at hl 4 rfl) ?_
          refine va_get (D := k.1) (ci := 4) (v := .ref (a 11)) (C := RX4) (T := TX4) (N := 10) hx hb hU inlX4 hown hK.1 hP 0 rfl rfl 1 (by decide) (hU _ uF_X4_21) (fun _ h9 => h9) rfl dX4_findExchangeable_78 ?_
          refine rcVN (n := 0) (As := []) (rest := []) hF (c_X3_stands l k a S (ex_T S (fe S n (w_X3_price S (bgT S T n (C_cells C) n)) (bgT S T n (C_cells C) n) i).1 n i) dr tr C F G  ) (hP) hK 11 (ci := 3) rfl rfl rfl uC_X3_stands uN_X3 nM_X4_248 uI_X3_stands uE_X3_stands (by decide +kernel) rfl ⟨Nat.le_of_ble_eq_true rfl, Nat.le_of_ble_eq_true rfl⟩ ⟨Nat.zero_le _, Nat.zero_le _⟩ hl.1 rfl (Nat.le_of_ble_eq_true rfl) dX4_findExchangeable_81 ?_
          refine lv_if_eq (tgt := 94) hx hb dX4_findExchangeable_84 (by decide) (fun c_5 => ?_) (fun c_5 => ?_)
          · refine lv_aload_n hx hb dX4_findExchangeable_94 rfl (lv_at hl 4 rfl) ?_
            refine va_get (D := k.1) (ci := 4) (v := .ref (a 11)) (C := RX4) (T := TX4) (N := 10) hx hb hU inlX4 hown hK.1 hP 0 rfl rfl 1 (by decide) (hU _ uF_X4_21) (fun _ h9 => h9) rfl dX4_findExchangeable_95 ?_
            refine lv_iload hx hb dX4_findExchangeable_98 (lv_at hl 0 rfl) ?_
            refine wcVN (n := 1) (As := [.int (nI i)]) (rest := []) hF (c_X3_exchange l k a S (ex_T S (fe S n (w_X3_price S (bgT S T n (C_cells C) n)) (bgT S T n (C_cells C) n) i).1 n i) dr tr C F G i n hn hc (by omega)) hP hD hS hA hK 11 (ci := 3) rfl rfl rfl uC_X3_exchange uN_X3 nM_X4_241 uI_X3_exchange uE_X3_exchange (by decide +kernel) rfl ⟨Nat.le_of_ble_eq_true rfl, Nat.le_of_ble_eq_true rfl⟩ ⟨Nat.zero_le _, Nat.zero_le _⟩ hl.1 rfl (Nat.le_of_ble_eq_true rfl) dX4_findExchangeable_100 (fun H locs hP hD hS => ?_)
            have hP : va_P k.1 vwCl (xW k a S (ex_T S (ex_T S (fe S n (w_X3_price S (bgT S T n (C_cells C) n)) (bgT S T n (C_cells C) n) i).1 n i) n i) dr tr C F G) H := hP
            have hD : va_D A (xW k a S (ex_T S (ex_T S (fe S n (w_X3_price S (bgT S T n (C_cells C) n)) (bgT S T n (C_cells C) n) i).1 n i) n i) dr tr C F G) := hD
            refine lv_iinc (v := nI (i + 1)) (lv' := [(5, .int (nI (i + 1))), (3, .long (w_X3_price S (bgT S T n (C_cells C) n))), (2, .int ((fe S n (w_X3_price S (bgT S T n (C_cells C) n)) (bgT S T n (C_cells C) n) i).2)), (1, .int (w_X2_freeSet S)), (0, .ref (a 0))]) hx hb dX4_findExchangeable_103 hl (k := 0) rfl (nI_add i 1) (by decide) rfl (fun ls hl => ?_)
            refine lv_goto (tgt := 35) hx hb dX4_findExchangeable_106 (by decide) ?_
            have eb : bt (w_X2_freeSet S) i = true := (hb1 (w_X2_freeSet S) (by omega)).mp c_3
            have hq2 : (fe S n (w_X3_price S (bgT S T n (C_cells C) n)) (bgT S T n (C_cells C) n) i).2 = (fe S n (w_X3_price S (bgT S T n (C_cells C) n)) (bgT S T n (C_cells C) n) (i + 1)).2 := by rw [fe, fes, if_pos eb, if_pos c_4, if_pos c_5]
            rw [hq2] at hl
            have hq1 : (ex_T S (ex_T S (fe S n (w_X3_price S (bgT S T n (C_cells C) n)) (bgT S T n (C_cells C) n) i).1 n i) n i) = (fe S n (w_X3_price S (bgT S T n (C_cells C) n)) (bgT S T n (C_cells C) n) (i + 1)).1 := by rw [fe, fes, if_pos eb, if_pos c_4, if_pos c_5]
            rw [hq1] at hP hD
            exact ih_i (i + 1) (by omega) ls _ _ (lv_sub hl [0, 1, 2, 3, 4] rfl) hP hD hS
          · refine lv_iload_n hx hb dX4_findExchangeable_87 rfl (lv_at hl 2 rfl) ?_
            refine lv_iconst (v := 1) hx hb dX4_findExchangeable_88 (by decide) ?_
            refine lv_iload hx hb dX4_findExchangeable_89 (lv_at hl 0 rfl) ?_
            refine lv_ishl hx hb dX4_findExchangeable_91 ?_
            refine lv_ior hx hb dX4_findExchangeable_92 ?_
            refine lv_istore_n (lv' := [(2, .int (((fe S n (w_X3_price S (bgT S T n (C_cells C) n)) (bgT S T n (C_cells C) n) i).2) ||| (1 <<< ((nI i) &&& 31)))), (5, .int (nI i)), (3, .long (w_X3_price S (bgT S T n (C_cells C) n))), (1, .int (w_X2_freeSet S)), (0, .ref (a 0))]) hx hb dX4_findExchangeable_93 rfl hl (by decide) rfl (fun ls hl => ?_)
            refine lv_aload_n hx hb dX4_findExchangeable_94 rfl (lv_at hl 4 rfl) ?_
            refine va_get (D := k.1) (ci := 4) (v := .ref (a 11)) (C := RX4) (T := TX4) (N := 10) hx hb hU inlX4 hown hK.1 hP 0 rfl rfl 1 (by decide) (hU _ uF_X4_21) (fun _ h9 => h9) rfl dX4_findExchangeable_95 ?_
            refine lv_iload hx hb dX4_findExchangeable_98 (lv_at hl 1 rfl) ?_
            refine wcVN (n := 1) (As := [.int (nI i)]) (rest := []) hF (c_X3_exchange l k a S (ex_T S (fe S n (w_X3_price S (bgT S T n (C_cells C) n)) (bgT S T n (C_cells C) n) i).1 n i) dr tr C F G i n hn hc (by omega)) hP hD hS hA hK 11 (ci := 3) rfl rfl rfl uC_X3_exchange uN_X3 nM_X4_241 uI_X3_exchange uE_X3_exchange (by decide +kernel) rfl ⟨Nat.le_of_ble_eq_true rfl, Nat.le_of_ble_eq_true rfl⟩ ⟨Nat.zero_le _, Nat.zero_le _⟩ hl.1 rfl (Nat.le_of_ble_eq_true rfl) dX4_findExchangeable_100 (fun H locs hP hD hS => ?_)
            have hP : va_P k.1 vwCl (xW k a S (ex_T S (ex_T S (fe S n (w_X3_price S (bgT S T n (C_cells C) n)) (bgT S T n (C_cells C) n) i).1 n i) n i) dr tr C F G) H := hP
            have hD : va_D A (xW k a S (ex_T S (ex_T S (fe S n (w_X3_price S (bgT S T n (C_cells C) n)) (bgT S T n (C_cells C) n) i).1 n i) n i) dr tr C F G) := hD
            refine lv_iinc (v := nI (i + 1)) (lv' := [(5, .int (nI (i + 1))), (2, .int (((fe S n (w_X3_price S (bgT S T n (C_cells C) n)) (bgT S T n (C_cells C) n) i).2) ||| (1 <<< ((nI i) &&& 31)))), (3, .long (w_X3_price S (bgT S T n (C_cells C) n))), (1, .int (w_X2_freeSet S)), (0, .ref (a 0))]) hx hb dX4_findExchangeable_103 hl (k := 1) rfl (nI_add i 1) (by decide) rfl (fun ls hl => ?_)
            refine lv_goto (tgt := 35) hx hb dX4_findExchangeable_106 (by decide) ?_
            have eb : bt (w_X2_freeSet S) i = true := (hb1 (w_X2_freeSet S) (by omega)).mp c_3
            have hq2 : (((fe S n (w_X3_price S (bgT S T n (C_cells C) n)) (bgT S T n (C_cells C) n) i).2) ||| (1 <<< ((nI i) &&& 31))) = (fe S n (w_X3_price S (bgT S T n (C_cells C) n)) (bgT S T n (C_cells C) n) (i + 1)).2 := by rw [fe, fes, if_pos eb, if_pos c_4, if_neg c_5]
            rw [hq2] at hl
            have hq1 : (ex_T S (ex_T S (fe S n (w_X3_price S (bgT S T n (C_cells C) n)) (bgT S T n (C_cells C) n) i).1 n i) n i) = (fe S n (w_X3_price S (bgT S T n (C_cells C) n)) (bgT S T n (C_cells C) n) (i + 1)).1 := by rw [fe, fes, if_pos eb, if_pos c_4, if_neg c_5]
            rw [hq1] at hP hD
            exact ih_i (i + 1) (by omega) ls _ _ (lv_sub hl [0, 2, 1, 3, 4] rfl) hP hD hS
  exact loop_i n 0 (by omega) ls _ _ (lv_sub hl [0, 1, 2, 3, 4] rfl) hP hD hS
end
section
/-- a number that has been tested, as a Nat -/
abbrev tn (x : Int32) : Nat := x.toNatClampNeg
theorem tn_nI {j : Nat} (h : j < 2 ^ 31) : tn (nI j) = j := nI_clamp h
theorem tn_of {x : Int32} {n : Nat} (hn : n < 2 ^ 31) (h0 : ¬ x < 0) (h : ¬ nI n ≤ x) : tn x < n ∧ x = nI (tn x) := by
  rcases pk_ix x hn with h1 | h1 | ⟨j, hj, rfl⟩
  · exact absurd h1 h0
  · exact absurd h1 h
  · rw [tn_nI (by omega)]; exact ⟨hj, rfl⟩
theorem hcJ {S : SeaT} {n : Nat} {ce : Int32} (hn : n ≤ 24) (hc : S_cells S = nI n) (h : ¬ w_hasCell (S_cells S) ce = 0) : tn ce < n ∧ ce = nI (tn ce) := by
  unfold w_hasCell at h
  split at h
  · exact absurd rfl h
  · rename_i h1
    split at h
    · rename_i h2
      rw [hc] at h2
      exact tn_of (by omega) h1 (fun q => absurd h2 (Int32.not_lt.mpr q))
    · exact absurd rfl h
theorem kiJ {ki : Int32} (h : ¬ w_isKind ki = 0) : tn ki < 8 ∧ ki = nI (tn ki) := by
  unfold w_isKind at h
  split at h
  · exact absurd rfl h
  · rename_i h1
    split at h
    · rename_i h2
      exact tn_of (n := 8) (by omega) h1 (fun q => absurd h2 (Int32.not_lt.mpr q))
    · exact absurd rfl h
theorem poJ {ki : Int32} (h : ¬ w_isPort ki = 0) : tn ki < 4 ∧ ki = nI (tn ki) := by
  unfold w_isPort at h
  split at h
  · exact absurd rfl h
  · rename_i h1
    split at h
    · rename_i h2
      exact tn_of (n := 4) (by omega) h1 (fun q => absurd h2 (Int32.not_lt.mpr q))
    · exact absurd rfl h
theorem hpJ {S : SeaT} {n : Nat} {ca cb : Int32} (hn : n ≤ 24) (hc : S_cells S = nI n) (h : ¬ w_X2_hasPair S ca cb = 0) : (tn ca < n ∧ ca = nI (tn ca)) ∧ (tn cb < n ∧ cb = nI (tn cb)) := by
  unfold w_X2_hasPair at h
  split at h
  · exact absurd rfl h
  · rename_i h1
    split at h
    · exact absurd rfl h
    · rename_i h2
      exact ⟨hcJ hn hc h1, hcJ hn hc h2⟩
theorem rgJ {x : Int32} {m : Nat} (hm : m < 2 ^ 30) (h0 : ¬ x < 1) (h : ¬ nI m < x) : tn x ≤ m ∧ x = nI (tn x) ∧ 1 ≤ tn x := by
  have h1 : ¬ x < 0 := fun q => h0 (Int32.lt_trans q (by decide))
  have h2 := tn_of (x := x) (n := m + 1) (by omega) h1 (fun q => h (Int32.lt_of_lt_of_le (nI_lt (by omega) (by omega)) q))
  refine ⟨by omega, h2.2, ?_⟩
  rcases Nat.eq_zero_or_pos (tn x) with h3 | h3
  · rw [h3] at h2
    exact absurd (by rw [h2.2]; decide) h0
  · exact h3
theorem lt24 {S : SeaT} {n : Nat} (hn : n ≤ 24) (hc : S_cells S = nI n) (h : S_cells S < 24) : n < 24 := by
  rw [hc] at h
  exact (nI_ltI (a := n) (b := 24) (by omega) (by omega)).mp h
theorem ge1 {x : Int64} (h : ¬ x < 1) : ¬ x = 0 := fun e => h (by rw [e]; decide)

def w_X4_cell (S : SeaT) (cost : Int64) : Int32 := if (S_cells S) < 24 then if (w_within cost 1000000) = 0 then (-1) else (((S_cells S) + 1) - 1) else (-1)
def w_X4_cell_S (S : SeaT) (cost : Int64) (n : Nat) : SeaT := if (S_cells S) < 24 then if (w_within cost 1000000) = 0 then S else (sS_cells (sS_costs S (vp_updL (S_costs S) n cost)) ((S_cells S) + 1)) else S
set_option maxHeartbeats 4000000 in
set_option maxRecDepth 100000 in
theorem c_X4_cell (l : Launch) (k : KT) (a : Nat → Nat) (S : SeaT) (T : TalT) (dr : Int64) (tr : Int64) (C : ChoT) (F : (Nat → Int32)) (G : GoT) (cost : Int64) (n : Nat) (hn : n ≤ 24) (hc : S_cells S = nI n) : MW l yX4_cell cX4_cell 3 (some .int) (rz 1 23) k [.ref (a 0), .long cost] (xW k a S T dr tr C F G) (some (.int (w_X4_cell S cost))) (xW k a (w_X4_cell_S S cost n) T dr tr C F G) := by
  intro sz
  refine Met.ofW (cc := cX4_cell) (maxL := 3) (ret := (some .int)) (by decide) rfl ?_
  intro p e s m args below meth c s₁ B hml hv
  obtain ⟨rfl, hsz, hP, hK, hD0⟩ := hv
  have hx := B.exec
  have hb := B.bytes
  have hr := B.returns
  have hU : ∀ w ∈ wsL_law, w.before [.ref (a 0), .long cost].toArray s = true := fun w h => atoms_spec (ws := Cond.code yX4_cell cX4_cell 3 (some .int) :: wsL_law) B.pre w (List.mem_cons_of_mem _ h)
  have hown : s.vm.findClass RX4 = some m.cls := findClass_of_methodNamed B.named
  have hlocks := B.notSynchronized
  have hF : CF p m c cX4_cell 3 s [.ref (a 0), .long cost].toArray RX4 := ⟨hx, hb, hml, hown, hU⟩
  subst hsz
  have hD := hD0.self (sz := s.heap.size)
  generalize hAe : va_A (xW k a S T dr tr C F G) s.heap.size = A at hD ⊢
  have hA : ∀ q : Nat, s.heap.size ≤ q → A q := fun q h => by rw [← hAe]; exact Or.inr h
  have hS : va_S A s.heap s.heap [] := va_S.rf
  have hl := lv_entry ([.ref (a 0), .long cost] : List Value) (n := 3) (Nat.le_of_ble_eq_true rfl)
  rw [lg_entry_eq]
  generalize (lg_sl ([.ref (a 0), .long cost] : List Value) ++ List.replicate (3 - (lg_sl ([.ref (a 0), .long cost] : List Value)).length) Slot.unset).toArray = ls at hl ⊢
  have hl : lv_has ls 3 [(0, .ref (a 0)), (1, .long cost)] := hl
  refine lv_aload_n hx hb dX4_cell_0 rfl (lv_at hl 0 rfl) ?_
  refine va_get (D := k.1) (ci := 4) (v := .ref (a 1)) (C := RX4) (T := TX4) (N := 10) hx hb hU inlX4 hown hK.1 hP 0 rfl rfl 0 (by decide) (hU _ uF_X4_10) (fun _ h9 => h9) rfl dX4_cell_1 ?_
  refine va_getN (D := k.1) (ci := 2) (v := .int (S_cells S)) (C := RX2) (T := TX2) (N := 16) hx hb hU inlX2 hown hK.1 hP 1 rfl rfl 12 (by decide) (hK.nf nF_X4_60) (fun _ h9 => h9) rfl dX4_cell_4 ?_
  refine lv_bipush (v := 24) hx hb dX4_cell_7 (by decide) ?_
  refine xb_ge (tgt := 22) hx hb dX4_cell_9 (by decide) (fun c_1 => ?_) (fun c_1 => ?_)
  · refine lv_iconst (v := (-1)) hx hb dX4_cell_22 (by decide) ?_
    have hP9 : va_P k.1 vwCl (xW k a (w_X4_cell_S S cost n) T dr tr C F G) s.heap := by rw [w_X4_cell_S, if_neg c_1]; exact hP
    have hD9 : va_D A (xW k a (w_X4_cell_S S cost n) T dr tr C F G) := by rw [w_X4_cell_S, if_neg c_1]; exact hD
    exact W.iret (v := (-1)) hx hb hr (fun t ht hW => ⟨⟨by rw [w_X4_cell, if_neg c_1], by rw [ht]; exact hP9, hD9⟩, hS.F ht⟩) hS.2.2 dX4_cell_23
  · refine lv_lload_n hx hb dX4_cell_12 rfl (lv_at hl 1 rfl) ?_
    refine lv_ldc2 hx hb hown (hU _ uK_X4_63) dX4_cell_13 ?_
    refine rcS (n := 2) (As := [.long cost, .long 1000000]) (rest := []) hF (c_X4_within l k cost 1000000) (hP.sub (ws' := []) [] rfl) hK uC_X4_within uN_X4 uM_X4_65 uS_X4_within (by decide +kernel) rfl ⟨Nat.le_of_ble_eq_true rfl, Nat.le_of_ble_eq_true rfl⟩ ⟨Nat.zero_le _, Nat.zero_le _⟩ hl.1 rfl (Nat.le_of_ble_eq_true rfl) dX4_cell_16 ?_
    refine lv_if_ne (tgt := 24) hx hb dX4_cell_19 (by decide) (fun c_2 => ?_) (fun c_2 => ?_)
    · refine lv_aload_n hx hb dX4_cell_24 rfl (lv_at hl 0 rfl) ?_
      refine va_get (D := k.1) (ci := 4) (v := .ref (a 1)) (C := RX4) (T := TX4) (N := 10) hx hb hU inlX4 hown hK.1 hP 0 rfl rfl 0 (by decide) (hU _ uF_X4_10) (fun _ h9 => h9) rfl dX4_cell_25 ?_
      refine va_getN (D := k.1) (ci := 2) (v := .ref (a 2)) (C := RX2) (T := TX2) (N := 16) hx hb hU inlX2 hown hK.1 hP 1 rfl rfl 0 (by decide) (hK.nf nF_X4_69) (fun _ h9 => h9) rfl dX4_cell_28 ?_
      refine lv_aload_n hx hb dX4_cell_31 rfl (lv_at hl 0 rfl) ?_
      refine va_get (D := k.1) (ci := 4) (v := .ref (a 1)) (C := RX4) (T := TX4) (N := 10) hx hb hU inlX4 hown hK.1 hP 0 rfl rfl 0 (by decide) (hU _ uF_X4_10) (fun _ h9 => h9) rfl dX4_cell_32 ?_
      refine va_getN (D := k.1) (ci := 2) (v := .int (S_cells S)) (C := RX2) (T := TX2) (N := 16) hx hb hU inlX2 hown hK.1 hP 1 rfl rfl 12 (by decide) (hK.nf nF_X4_60) (fun _ h9 => h9) rfl dX4_cell_35 ?_
      refine lv_lload_n hx hb dX4_cell_38 rfl (lv_at hl 1 rfl) ?_
      refine xa_last hx hb hK.1 hP hD hS 2 1 rfl rfl (j := n) hc (lt24 hn hc c_1) (by decide) dX4_cell_39 (fun H locs hP hD hS => ?_)
      have hP := pz_x_2 k a S T dr tr C F G (vp_updL (S_costs S) n cost) hP
      have hD := dz_x_2 k a S T dr tr C F G (vp_updL (S_costs S) n cost) hD
      refine lv_aload_n hx hb dX4_cell_40 rfl (lv_at hl 0 rfl) ?_
      refine va_get (D := k.1) (ci := 4) (v := .ref (a 1)) (C := RX4) (T := TX4) (N := 10) hx hb hU inlX4 hown hK.1 hP 0 rfl rfl 0 (by decide) (hU _ uF_X4_10) (fun _ h9 => h9) rfl dX4_cell_41 ?_
      refine lv_dup hx hb dX4_cell_44 rfl ?_
      refine va_getN (D := k.1) (ci := 2) (v := .int (S_cells S)) (C := RX2) (T := TX2) (N := 16) hx hb hU inlX2 hown hK.1 hP 1 rfl rfl 12 (by decide) (hK.nf nF_X4_60) (fun _ h9 => h9) rfl dX4_cell_45 ?_
      refine lv_iconst (v := 1) hx hb dX4_cell_48 (by decide) ?_
      refine lv_iadd hx hb dX4_cell_49 ?_
      refine va_putN (D := k.1) (ci := 2) (v := .int ((S_cells S) + 1)) (ty := .int) (C := RX2) (T := TX2) (N := 16) hx hb hU inlX2 tyX2 tyX2_ok nmX2 hown hK.1 hP hD hS 1 rfl rfl 12 (by decide) (hK.nf nF_X4_60) (fun _ h9 => h9) rfl (by decide +kernel) rfl rfl (Nat.le_of_ble_eq_true rfl) dX4_cell_50 (fun H locs hP hD hS => ?_)
      have hP := pz_x_1_12 k a (sS_costs S (vp_updL (S_costs S) n cost)) T dr tr C F G ((S_cells S) + 1) hP
      have hD := dz_x_1_12 k a (sS_costs S (vp_updL (S_costs S) n cost)) T dr tr C F G ((S_cells S) + 1) hD
      refine lv_aload_n hx hb dX4_cell_53 rfl (lv_at hl 0 rfl) ?_
      refine va_get (D := k.1) (ci := 4) (v := .ref (a 1)) (C := RX4) (T := TX4) (N := 10) hx hb hU inlX4 hown hK.1 hP 0 rfl rfl 0 (by decide) (hU _ uF_X4_10) (fun _ h9 => h9) rfl dX4_cell_54 ?_
      refine va_getN (D := k.1) (ci := 2) (v := .int ((S_cells S) + 1)) (C := RX2) (T := TX2) (N := 16) hx hb hU inlX2 hown hK.1 hP 1 rfl rfl 12 (by decide) (hK.nf nF_X4_60) (fun _ h9 => h9) rfl dX4_cell_57 ?_
      refine lv_iconst (v := 1) hx hb dX4_cell_60 (by decide) ?_
      refine lv_isub hx hb dX4_cell_61 ?_
      have hP9 : va_P k.1 vwCl (xW k a (w_X4_cell_S S cost n) T dr tr C F G) H := by rw [w_X4_cell_S, if_pos c_1, if_neg c_2]; exact hP
      have hD9 : va_D A (xW k a (w_X4_cell_S S cost n) T dr tr C F G) := by rw [w_X4_cell_S, if_pos c_1, if_neg c_2]; exact hD
      exact W.iret (v := (((S_cells S) + 1) - 1)) hx hb hr (fun t ht hW => ⟨⟨by rw [w_X4_cell, if_pos c_1, if_neg c_2], by rw [ht]; exact hP9, hD9⟩, hS.F ht⟩) hS.2.2 dX4_cell_62
    · refine lv_iconst (v := (-1)) hx hb dX4_cell_22 (by decide) ?_
      have hP9 : va_P k.1 vwCl (xW k a (w_X4_cell_S S cost n) T dr tr C F G) s.heap := by rw [w_X4_cell_S, if_pos c_1, if_pos c_2]; exact hP
      have hD9 : va_D A (xW k a (w_X4_cell_S S cost n) T dr tr C F G) := by rw [w_X4_cell_S, if_pos c_1, if_pos c_2]; exact hD
      exact W.iret (v := (-1)) hx hb hr (fun t ht hW => ⟨⟨by rw [w_X4_cell, if_pos c_1, if_pos c_2], by rw [ht]; exact hP9, hD9⟩, hS.F ht⟩) hS.2.2 dX4_cell_23

def w_X4_goal (ki : Int32) (av : Int64) (bv : Int64) : Int32 := if (w_isKind ki) = 0 then 0 else if (w_isShare av bv) = 0 then 0 else 1
def w_X4_goal_S (S : SeaT) (ki : Int32) (av : Int64) (bv : Int64) : SeaT := if (w_isKind ki) = 0 then S else if (w_isShare av bv) = 0 then S else (sS_goalBelow (sS_goalAbove S (vp_updL (S_goalAbove S) (tn ki) av)) (vp_updL (S_goalBelow (sS_goalAbove S (vp_updL (S_goalAbove S) (tn ki) av))) (tn ki) bv))
set_option maxHeartbeats 4000000 in
set_option maxRecDepth 100000 in
theorem c_X4_goal (l : Launch) (k : KT) (a : Nat → Nat) (S : SeaT) (T : TalT) (dr : Int64) (tr : Int64) (C : ChoT) (F : (Nat → Int32)) (G : GoT) (ki : Int32) (av : Int64) (bv : Int64) (n : Nat) (hn : n ≤ 24) (hc : S_cells S = nI n) : MW l yX4_goal cX4_goal 6 (some .boolean) (rz 1 23) k [.ref (a 0), .int ki, .long av, .long bv] (xW k a S T dr tr C F G) (some (.int (w_X4_goal ki av bv))) (xW k a (w_X4_goal_S S ki av bv) T dr tr C F G) := by
  intro sz
  refine Met.ofW (cc := cX4_goal) (maxL := 6) (ret := (some .boolean)) (by decide) rfl ?_
  intro p e s m args below meth c s₁ B hml hv
  obtain ⟨rfl, hsz, hP, hK, hD0⟩ := hv
  have hx := B.exec
  have hb := B.bytes
  have hr := B.returns
  have hU : ∀ w ∈ wsL_law, w.before [.ref (a 0), .int ki, .long av, .long bv].toArray s = true := fun w h => atoms_spec (ws := Cond.code yX4_goal cX4_goal 6 (some .boolean) :: wsL_law) B.pre w (List.mem_cons_of_mem _ h)
  have hown : s.vm.findClass RX4 = some m.cls := findClass_of_methodNamed B.named
  have hlocks := B.notSynchronized
  have hF : CF p m c cX4_goal 6 s [.ref (a 0), .int ki, .long av, .long bv].toArray RX4 := ⟨hx, hb, hml, hown, hU⟩
  subst hsz
  have hD := hD0.self (sz := s.heap.size)
  generalize hAe : va_A (xW k a S T dr tr C F G) s.heap.size = A at hD ⊢
  have hA : ∀ q : Nat, s.heap.size ≤ q → A q := fun q h => by rw [← hAe]; exact Or.inr h
  have hS : va_S A s.heap s.heap [] := va_S.rf
  have hl := lv_entry ([.ref (a 0), .int ki, .long av, .long bv] : List Value) (n := 6) (Nat.le_of_ble_eq_true rfl)
  rw [lg_entry_eq]
  generalize (lg_sl ([.ref (a 0), .int ki, .long av, .long bv] : List Value) ++ List.replicate (6 - (lg_sl ([.ref (a 0), .int ki, .long av, .long bv] : List Value)).length) Slot.unset).toArray = ls at hl ⊢
  have hl : lv_has ls 6 [(0, .ref (a 0)), (1, .int ki), (2, .long av), (4, .long bv)] := hl
  refine lv_iload_n hx hb dX4_goal_0 rfl (lv_at hl 1 rfl) ?_
  refine rcS (n := 1) (As := [.int ki]) (rest := []) hF (c_X4_isKind l k ki) (hP.sub (ws' := []) [] rfl) hK uC_X4_isKind uN_X4 uM_X4_77 uS_X4_isKind (by decide +kernel) rfl ⟨Nat.le_of_ble_eq_true rfl, Nat.le_of_ble_eq_true rfl⟩ ⟨Nat.zero_le _, Nat.zero_le _⟩ hl.1 rfl (Nat.le_of_ble_eq_true rfl) dX4_goal_1 ?_
  refine lv_if_eq (tgt := 16) hx hb dX4_goal_4 (by decide) (fun c_1 => ?_) (fun c_1 => ?_)
  · refine lv_iconst (v := 0) hx hb dX4_goal_16 (by decide) ?_
    have hP9 : va_P k.1 vwCl (xW k a (w_X4_goal_S S ki av bv) T dr tr C F G) s.heap := by rw [w_X4_goal_S, if_pos c_1]; exact hP
    have hD9 : va_D A (xW k a (w_X4_goal_S S ki av bv) T dr tr C F G) := by rw [w_X4_goal_S, if_pos c_1]; exact hD
    exact W.zret (v := 0) hx hb hr rfl (fun t ht hW => ⟨⟨by rw [w_X4_goal, if_pos c_1], by rw [ht]; exact hP9, hD9⟩, hS.F ht⟩) hS.2.2 dX4_goal_17
  · refine lv_lload_n hx hb dX4_goal_7 rfl (lv_at hl 2 rfl) ?_
    refine lv_lload hx hb dX4_goal_8 (lv_at hl 3 rfl) ?_
    refine rcS (n := 2) (As := [.long av, .long bv]) (rest := []) hF (c_X4_isShare l k av bv) (hP.sub (ws' := []) [] rfl) hK uC_X4_isShare uN_X4 uM_X4_90 uS_X4_isShare (by decide +kernel) rfl ⟨Nat.le_of_ble_eq_true rfl, Nat.le_of_ble_eq_true rfl⟩ ⟨Nat.zero_le _, Nat.zero_le _⟩ hl.1 rfl (Nat.le_of_ble_eq_true rfl) dX4_goal_10 ?_
    refine lv_if_ne (tgt := 18) hx hb dX4_goal_13 (by decide) (fun c_2 => ?_) (fun c_2 => ?_)
    · refine lv_aload_n hx hb dX4_goal_18 rfl (lv_at hl 0 rfl) ?_
      refine va_get (D := k.1) (ci := 4) (v := .ref (a 1)) (C := RX4) (T := TX4) (N := 10) hx hb hU inlX4 hown hK.1 hP 0 rfl rfl 0 (by decide) (hU _ uF_X4_10) (fun _ h9 => h9) rfl dX4_goal_19 ?_
      refine va_getN (D := k.1) (ci := 2) (v := .ref (a 9)) (C := RX2) (T := TX2) (N := 16) hx hb hU inlX2 hown hK.1 hP 1 rfl rfl 7 (by decide) (hK.nf nF_X4_93) (fun _ h9 => h9) rfl dX4_goal_22 ?_
      refine lv_iload_n hx hb dX4_goal_25 rfl (lv_at hl 1 rfl) ?_
      refine lv_lload_n hx hb dX4_goal_26 rfl (lv_at hl 2 rfl) ?_
      refine xa_last hx hb hK.1 hP hD hS 9 1 rfl rfl (j := (tn ki)) (kiJ c_1).2 (kiJ c_1).1 (by decide) dX4_goal_27 (fun H locs hP hD hS => ?_)
      have hP := pz_x_9 k a S T dr tr C F G (vp_updL (S_goalAbove S) (tn ki) av) hP
      have hD := dz_x_9 k a S T dr tr C F G (vp_updL (S_goalAbove S) (tn ki) av) hD
      refine lv_aload_n hx hb dX4_goal_28 rfl (lv_at hl 0 rfl) ?_
      refine va_get (D := k.1) (ci := 4) (v := .ref (a 1)) (C := RX4) (T := TX4) (N := 10) hx hb hU inlX4 hown hK.1 hP 0 rfl rfl 0 (by decide) (hU _ uF_X4_10) (fun _ h9 => h9) rfl dX4_goal_29 ?_
      refine va_getN (D := k.1) (ci := 2) (v := .ref (a 10)) (C := RX2) (T := TX2) (N := 16) hx hb hU inlX2 hown hK.1 hP 1 rfl rfl 8 (by decide) (hK.nf nF_X4_96) (fun _ h9 => h9) rfl dX4_goal_32 ?_
      refine lv_iload_n hx hb dX4_goal_35 rfl (lv_at hl 1 rfl) ?_
      refine lv_lload hx hb dX4_goal_36 (lv_at hl 3 rfl) ?_
      refine xa_last hx hb hK.1 hP hD hS 10 1 rfl rfl (j := (tn ki)) (kiJ c_1).2 (kiJ c_1).1 (by decide) dX4_goal_38 (fun H locs hP hD hS => ?_)
      have hP := pz_x_10 k a (sS_goalAbove S (vp_updL (S_goalAbove S) (tn ki) av)) T dr tr C F G (vp_updL (S_goalBelow (sS_goalAbove S (vp_updL (S_goalAbove S) (tn ki) av))) (tn ki) bv) hP
      have hD := dz_x_10 k a (sS_goalAbove S (vp_updL (S_goalAbove S) (tn ki) av)) T dr tr C F G (vp_updL (S_goalBelow (sS_goalAbove S (vp_updL (S_goalAbove S) (tn ki) av))) (tn ki) bv) hD
      refine lv_iconst (v := 1) hx hb dX4_goal_39 (by decide) ?_
      have hP9 : va_P k.1 vwCl (xW k a (w_X4_goal_S S ki av bv) T dr tr C F G) H := by rw [w_X4_goal_S, if_neg c_1, if_neg c_2]; exact hP
      have hD9 : va_D A (xW k a (w_X4_goal_S S ki av bv) T dr tr C F G) := by rw [w_X4_goal_S, if_neg c_1, if_neg c_2]; exact hD
      exact W.zret (v := 1) hx hb hr rfl (fun t ht hW => ⟨⟨by rw [w_X4_goal, if_neg c_1, if_neg c_2], by rw [ht]; exact hP9, hD9⟩, hS.F ht⟩) hS.2.2 dX4_goal_40
    · refine lv_iconst (v := 0) hx hb dX4_goal_16 (by decide) ?_
      have hP9 : va_P k.1 vwCl (xW k a (w_X4_goal_S S ki av bv) T dr tr C F G) s.heap := by rw [w_X4_goal_S, if_neg c_1, if_pos c_2]; exact hP
      have hD9 : va_D A (xW k a (w_X4_goal_S S ki av bv) T dr tr C F G) := by rw [w_X4_goal_S, if_neg c_1, if_pos c_2]; exact hD
      exact W.zret (v := 0) hx hb hr rfl (fun t ht hW => ⟨⟨by rw [w_X4_goal, if_neg c_1, if_pos c_2], by rw [ht]; exact hP9, hD9⟩, hS.F ht⟩) hS.2.2 dX4_goal_17

def w_X4_must (S : SeaT) (ce : Int32) : Int32 := if (w_hasCell (S_cells S) ce) = 0 then 0 else 1
def w_X4_must_S (S : SeaT) (ce : Int32) : SeaT := if (w_hasCell (S_cells S) ce) = 0 then S else (sS_barred (sS_needed S ((S_needed S) ||| (1 <<< (ce &&& 31)))) ((S_barred S) &&& ((1 <<< (ce &&& 31)) ^^^ (-1))))
set_option maxHeartbeats 4000000 in
set_option maxRecDepth 100000 in
theorem c_X4_must (l : Launch) (k : KT) (a : Nat → Nat) (S : SeaT) (T : TalT) (dr : Int64) (tr : Int64) (C : ChoT) (F : (Nat → Int32)) (G : GoT) (ce : Int32) (n : Nat) (hn : n ≤ 24) (hc : S_cells S = nI n) : MW l yX4_must cX4_must 2 (some .boolean) (rz 1 21) k [.ref (a 0), .int ce] (xW k a S T dr tr C F G) (some (.int (w_X4_must S ce))) (xW k a (w_X4_must_S S ce) T dr tr C F G) := by
  intro sz
  refine Met.ofW (cc := cX4_must) (maxL := 2) (ret := (some .boolean)) (by decide) rfl ?_
  intro p e s m args below meth c s₁ B hml hv
  obtain ⟨rfl, hsz, hP, hK, hD0⟩ := hv
  have hx := B.exec
  have hb := B.bytes
  have hr := B.returns
  have hU : ∀ w ∈ wsL_law, w.before [.ref (a 0), .int ce].toArray s = true := fun w h => atoms_spec (ws := Cond.code yX4_must cX4_must 2 (some .boolean) :: wsL_law) B.pre w (List.mem_cons_of_mem _ h)
  have hown : s.vm.findClass RX4 = some m.cls := findClass_of_methodNamed B.named
  have hlocks := B.notSynchronized
  have hF : CF p m c cX4_must 2 s [.ref (a 0), .int ce].toArray RX4 := ⟨hx, hb, hml, hown, hU⟩
  subst hsz
  have hD := hD0.self (sz := s.heap.size)
  generalize hAe : va_A (xW k a S T dr tr C F G) s.heap.size = A at hD ⊢
  have hA : ∀ q : Nat, s.heap.size ≤ q → A q := fun q h => by rw [← hAe]; exact Or.inr h
  have hS : va_S A s.heap s.heap [] := va_S.rf
  have hl := lv_entry ([.ref (a 0), .int ce] : List Value) (n := 2) (Nat.le_of_ble_eq_true rfl)
  rw [lg_entry_eq]
  generalize (lg_sl ([.ref (a 0), .int ce] : List Value) ++ List.replicate (2 - (lg_sl ([.ref (a 0), .int ce] : List Value)).length) Slot.unset).toArray = ls at hl ⊢
  have hl : lv_has ls 2 [(0, .ref (a 0)), (1, .int ce)] := hl
  refine lv_aload_n hx hb dX4_must_0 rfl (lv_at hl 0 rfl) ?_
  refine va_get (D := k.1) (ci := 4) (v := .ref (a 1)) (C := RX4) (T := TX4) (N := 10) hx hb hU inlX4 hown hK.1 hP 0 rfl rfl 0 (by decide) (hU _ uF_X4_10) (fun _ h9 => h9) rfl dX4_must_1 ?_
  refine lv_iload_n hx hb dX4_must_4 rfl (lv_at hl 1 rfl) ?_
  refine rcVN (n := 1) (As := [.int ce]) (rest := []) hF (c_X2_hasCell l k a S T dr tr C F G ce ) (hP) hK 1 (ci := 2) rfl rfl rfl uC_X2_hasCell uN_X2 nM_X4_73 uI_X2_hasCell uE_X2_hasCell (by decide +kernel) rfl ⟨Nat.le_of_ble_eq_true rfl, Nat.le_of_ble_eq_true rfl⟩ ⟨Nat.zero_le _, Nat.zero_le _⟩ hl.1 rfl (Nat.le_of_ble_eq_true rfl) dX4_must_5 ?_
  refine lv_if_ne (tgt := 13) hx hb dX4_must_8 (by decide) (fun c_1 => ?_) (fun c_1 => ?_)
  · refine lv_aload_n hx hb dX4_must_13 rfl (lv_at hl 0 rfl) ?_
    refine va_get (D := k.1) (ci := 4) (v := .ref (a 1)) (C := RX4) (T := TX4) (N := 10) hx hb hU inlX4 hown hK.1 hP 0 rfl rfl 0 (by decide) (hU _ uF_X4_10) (fun _ h9 => h9) rfl dX4_must_14 ?_
    refine lv_dup hx hb dX4_must_17 rfl ?_
    refine va_getN (D := k.1) (ci := 2) (v := .int (S_needed S)) (C := RX2) (T := TX2) (N := 16) hx hb hU inlX2 hown hK.1 hP 1 rfl rfl 13 (by decide) (hK.nf nF_X4_109) (fun _ h9 => h9) rfl dX4_must_18 ?_
    refine lv_iconst (v := 1) hx hb dX4_must_21 (by decide) ?_
    refine lv_iload_n hx hb dX4_must_22 rfl (lv_at hl 1 rfl) ?_
    refine lv_ishl hx hb dX4_must_23 ?_
    refine lv_ior hx hb dX4_must_24 ?_
    refine va_putN (D := k.1) (ci := 2) (v := .int ((S_needed S) ||| (1 <<< (ce &&& 31)))) (ty := .int) (C := RX2) (T := TX2) (N := 16) hx hb hU inlX2 tyX2 tyX2_ok nmX2 hown hK.1 hP hD hS 1 rfl rfl 13 (by decide) (hK.nf nF_X4_109) (fun _ h9 => h9) rfl (by decide +kernel) rfl rfl (Nat.le_of_ble_eq_true rfl) dX4_must_25 (fun H locs hP hD hS => ?_)
    have hP := pz_x_1_13 k a S T dr tr C F G ((S_needed S) ||| (1 <<< (ce &&& 31))) hP
    have hD := dz_x_1_13 k a S T dr tr C F G ((S_needed S) ||| (1 <<< (ce &&& 31))) hD
    refine lv_aload_n hx hb dX4_must_28 rfl (lv_at hl 0 rfl) ?_
    refine va_get (D := k.1) (ci := 4) (v := .ref (a 1)) (C := RX4) (T := TX4) (N := 10) hx hb hU inlX4 hown hK.1 hP 0 rfl rfl 0 (by decide) (hU _ uF_X4_10) (fun _ h9 => h9) rfl dX4_must_29 ?_
    refine lv_dup hx hb dX4_must_32 rfl ?_
    refine va_getN (D := k.1) (ci := 2) (v := .int (S_barred S)) (C := RX2) (T := TX2) (N := 16) hx hb hU inlX2 hown hK.1 hP 1 rfl rfl 14 (by decide) (hK.nf nF_X4_112) (fun _ h9 => h9) rfl dX4_must_33 ?_
    refine lv_iconst (v := 1) hx hb dX4_must_36 (by decide) ?_
    refine lv_iload_n hx hb dX4_must_37 rfl (lv_at hl 1 rfl) ?_
    refine lv_ishl hx hb dX4_must_38 ?_
    refine lv_iconst (v := (-1)) hx hb dX4_must_39 (by decide) ?_
    refine lv_ixor hx hb dX4_must_40 ?_
    refine lv_iand hx hb dX4_must_41 ?_
    refine va_putN (D := k.1) (ci := 2) (v := .int ((S_barred S) &&& ((1 <<< (ce &&& 31)) ^^^ (-1)))) (ty := .int) (C := RX2) (T := TX2) (N := 16) hx hb hU inlX2 tyX2 tyX2_ok nmX2 hown hK.1 hP hD hS 1 rfl rfl 14 (by decide) (hK.nf nF_X4_112) (fun _ h9 => h9) rfl (by decide +kernel) rfl rfl (Nat.le_of_ble_eq_true rfl) dX4_must_42 (fun H locs hP hD hS => ?_)
    have hP := pz_x_1_14 k a (sS_needed S ((S_needed S) ||| (1 <<< (ce &&& 31)))) T dr tr C F G ((S_barred S) &&& ((1 <<< (ce &&& 31)) ^^^ (-1))) hP
    have hD := dz_x_1_14 k a (sS_needed S ((S_needed S) ||| (1 <<< (ce &&& 31)))) T dr tr C F G ((S_barred S) &&& ((1 <<< (ce &&& 31)) ^^^ (-1))) hD
    refine lv_iconst (v := 1) hx hb dX4_must_45 (by decide) ?_
    have hP9 : va_P k.1 vwCl (xW k a (w_X4_must_S S ce) T dr tr C F G) H := by rw [w_X4_must_S, if_neg c_1]; exact hP
    have hD9 : va_D A (xW k a (w_X4_must_S S ce) T dr tr C F G) := by rw [w_X4_must_S, if_neg c_1]; exact hD
    exact W.zret (v := 1) hx hb hr rfl (fun t ht hW => ⟨⟨by rw [w_X4_must, if_neg c_1], by rw [ht]; exact hP9, hD9⟩, hS.F ht⟩) hS.2.2 dX4_must_46
  · refine lv_iconst (v := 0) hx hb dX4_must_11 (by decide) ?_
    have hP9 : va_P k.1 vwCl (xW k a (w_X4_must_S S ce) T dr tr C F G) s.heap := by rw [w_X4_must_S, if_pos c_1]; exact hP
    have hD9 : va_D A (xW k a (w_X4_must_S S ce) T dr tr C F G) := by rw [w_X4_must_S, if_pos c_1]; exact hD
    exact W.zret (v := 0) hx hb hr rfl (fun t ht hW => ⟨⟨by rw [w_X4_must, if_pos c_1], by rw [ht]; exact hP9, hD9⟩, hS.F ht⟩) hS.2.2 dX4_must_12
end
