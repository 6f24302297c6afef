/-! ===== BEGIN printed: names, fields, word lists, decode rows ===== -/
def RX0 : String := "AssistRows$Driver"
def TX0 : u_T := fun k => match k with
  | 0 => ("AssistRows$Driver", "pedal", "D", false)
  | 1 => ("AssistRows$Driver", "brake", "D", false)
  | _ => ("AssistRows$Driver", "steer", "D", false)
def tyX0 : Nat → FieldType := fun k => match k with
  | 0 => .double
  | 1 => .double
  | _ => .double
abbrev wsX00 : List Cond := u_ws RX0 TX0 3
theorem nmX0 : ∀ a, a < 3 → ∀ b, b < 3 → a ≠ b → (TX0 a).2.1 ≠ (TX0 b).2.1 := by decide +kernel
theorem tyX0_ok : ∀ k, k < 3 → parseFieldDescriptor (TX0 k).2.2.1 = some (tyX0 k) := by decide +kernel
abbrev cX0_init : ByteArray := prog_2_method_1_code
def yX0_init : MethodName := ⟨RX0, "<init>", "()V"⟩
abbrev cX0_tell : ByteArray := prog_2_method_2_code
def yX0_tell : MethodName := ⟨RX0, "tell", "(ID)Z"⟩
abbrev cX0_steers : ByteArray := prog_2_method_3_code
def yX0_steers : MethodName := ⟨RX0, "steers", "(D)Z"⟩
def RX1 : String := "AssistRows$Hands"
def TX1 : u_T := fun k => match k with
  | 0 => ("AssistRows$Hands", "on", "Z", false)
  | 1 => ("AssistRows$Hands", "asked", "Z", false)
  | 2 => ("AssistRows$Hands", "stopping", "Z", false)
  | 3 => ("AssistRows$Hands", "changedAt", "D", false)
  | _ => ("AssistRows$Hands", "askedAt", "D", false)
def tyX1 : Nat → FieldType := fun k => match k with
  | 0 => .boolean
  | 1 => .boolean
  | 2 => .boolean
  | 3 => .double
  | _ => .double
abbrev wsX10 : List Cond := u_ws RX1 TX1 5
theorem nmX1 : ∀ a, a < 5 → ∀ b, b < 5 → a ≠ b → (TX1 a).2.1 ≠ (TX1 b).2.1 := by decide +kernel
theorem tyX1_ok : ∀ k, k < 5 → parseFieldDescriptor (TX1 k).2.2.1 = some (tyX1 k) := by decide +kernel
abbrev cX1_init : ByteArray := prog_3_method_1_code
def yX1_init : MethodName := ⟨RX1, "<init>", "()V"⟩
abbrev cX1_tell : ByteArray := prog_3_method_2_code
def yX1_tell : MethodName := ⟨RX1, "tell", "(ZD)Z"⟩
abbrev cX1_ask : ByteArray := prog_3_method_3_code
def yX1_ask : MethodName := ⟨RX1, "ask", "(D)Z"⟩
abbrev cX1_off : ByteArray := prog_3_method_4_code
def yX1_off : MethodName := ⟨RX1, "off", "(D)D"⟩
abbrev cX1_pass : ByteArray := prog_3_method_5_code
def yX1_pass : MethodName := ⟨RX1, "pass", "(DD)V"⟩
def RX2 : String := "AssistRows$Lane"
def TX2 : u_T := fun k => match k with
  | 0 => ("AssistRows$Lane", "offset", "D", false)
  | 1 => ("AssistRows$Lane", "slope", "D", false)
  | _ => ("AssistRows$Lane", "curve", "D", false)
def tyX2 : Nat → FieldType := fun k => match k with
  | 0 => .double
  | 1 => .double
  | _ => .double
abbrev wsX20 : List Cond := u_ws RX2 TX2 3
theorem nmX2 : ∀ a, a < 3 → ∀ b, b < 3 → a ≠ b → (TX2 a).2.1 ≠ (TX2 b).2.1 := by decide +kernel
theorem tyX2_ok : ∀ k, k < 3 → parseFieldDescriptor (TX2 k).2.2.1 = some (tyX2 k) := by decide +kernel
abbrev cX2_init : ByteArray := prog_4_method_1_code
def yX2_init : MethodName := ⟨RX2, "<init>", "()V"⟩
abbrev cX2_middle : ByteArray := prog_4_method_2_code
def yX2_middle : MethodName := ⟨RX2, "middle", "(D)D"⟩
abbrev cX2_straightening : ByteArray := prog_4_method_3_code
def yX2_straightening : MethodName := ⟨RX2, "straightening", "()D"⟩
def RX3 : String := "AssistRows$Limits"
def TX3 : u_T := fun k => match k with
  | 0 => ("AssistRows$Limits", "speed", "D", false)
  | 1 => ("AssistRows$Limits", "gap", "D", false)
  | 2 => ("AssistRows$Limits", "braking", "D", false)
  | _ => ("AssistRows$Limits", "pull", "D", false)
def tyX3 : Nat → FieldType := fun k => match k with
  | 0 => .double
  | 1 => .double
  | 2 => .double
  | _ => .double
abbrev wsX30 : List Cond := u_ws RX3 TX3 4
theorem nmX3 : ∀ a, a < 4 → ∀ b, b < 4 → a ≠ b → (TX3 a).2.1 ≠ (TX3 b).2.1 := by decide +kernel
theorem tyX3_ok : ∀ k, k < 4 → parseFieldDescriptor (TX3 k).2.2.1 = some (tyX3 k) := by decide +kernel
abbrev cX3_init : ByteArray := prog_5_method_1_code
def yX3_init : MethodName := ⟨RX3, "<init>", "()V"⟩
abbrev cX3_tell : ByteArray := prog_5_method_2_code
def yX3_tell : MethodName := ⟨RX3, "tell", "(ID)Z"⟩
abbrev cX3_fits : ByteArray := prog_5_method_3_code
def yX3_fits : MethodName := ⟨RX3, "fits", "(ID)Z"⟩
def RX4 : String := "AssistRows$Measures"
def TX4 : u_T := fun k => match k with
  | 0 => ("AssistRows$Measures", "x", "[D", true)
  | 1 => ("AssistRows$Measures", "y", "[D", true)
  | 2 => ("AssistRows$Measures", "speed", "[D", true)
  | _ => ("AssistRows$Measures", "count", "I", false)
def tyX4 : Nat → FieldType := fun k => match k with
  | 0 => .array .double
  | 1 => .array .double
  | 2 => .array .double
  | _ => .int
abbrev wsX40 : List Cond := u_ws RX4 TX4 4
theorem nmX4 : ∀ a, a < 4 → ∀ b, b < 4 → a ≠ b → (TX4 a).2.1 ≠ (TX4 b).2.1 := by decide +kernel
theorem tyX4_ok : ∀ k, k < 4 → parseFieldDescriptor (TX4 k).2.2.1 = some (tyX4 k) := by decide +kernel
abbrev cX4_init : ByteArray := prog_6_method_1_code
def yX4_init : MethodName := ⟨RX4, "<init>", "()V"⟩
abbrev cX4_add : ByteArray := prog_6_method_2_code
def yX4_add : MethodName := ⟨RX4, "add", "(DDD)I"⟩
def RX5 : String := "AssistRows$Pairing"
def TX5 : u_T := fun k => match k with
  | 0 => ("AssistRows$Pairing", "best", "[I", true)
  | 1 => ("AssistRows$Pairing", "tried", "[I", true)
  | 2 => ("AssistRows$Pairing", "costs", "[I", true)
  | 3 => ("AssistRows$Pairing", "taken", "[Z", true)
  | 4 => ("AssistRows$Pairing", "count", "I", false)
  | 5 => ("AssistRows$Pairing", "bestJoined", "I", false)
  | _ => ("AssistRows$Pairing", "bestSum", "I", false)
def tyX5 : Nat → FieldType := fun k => match k with
  | 0 => .array .int
  | 1 => .array .int
  | 2 => .array .int
  | 3 => .array .boolean
  | 4 => .int
  | 5 => .int
  | _ => .int
abbrev wsX50 : List Cond := u_ws RX5 TX5 7
theorem nmX5 : ∀ a, a < 7 → ∀ b, b < 7 → a ≠ b → (TX5 a).2.1 ≠ (TX5 b).2.1 := by decide +kernel
theorem tyX5_ok : ∀ k, k < 7 → parseFieldDescriptor (TX5 k).2.2.1 = some (tyX5 k) := by decide +kernel
abbrev cX5_init : ByteArray := prog_7_method_1_code
def yX5_init : MethodName := ⟨RX5, "<init>", "()V"⟩
abbrev cX5_solve : ByteArray := prog_7_method_2_code
def yX5_solve : MethodName := ⟨RX5, "solve", "(LAssistRows$Measures;LAssistRows$Tracks;)V"⟩
abbrev cX5_search : ByteArray := prog_7_method_3_code
def yX5_search : MethodName := ⟨RX5, "search", "(LAssistRows$Pairing;III)V"⟩
abbrev cX5_keep : ByteArray := prog_7_method_4_code
def yX5_keep : MethodName := ⟨RX5, "keep", "(II)V"⟩
def RX6 : String := "AssistRows$Signs"
def TX6 : u_T := fun k => match k with
  | 0 => ("AssistRows$Signs", "counts", "[I", true)
  | _ => ("AssistRows$Signs", "taken", "I", false)
def tyX6 : Nat → FieldType := fun k => match k with
  | 0 => .array .int
  | _ => .int
abbrev wsX60 : List Cond := u_ws RX6 TX6 2
theorem nmX6 : ∀ a, a < 2 → ∀ b, b < 2 → a ≠ b → (TX6 a).2.1 ≠ (TX6 b).2.1 := by decide +kernel
theorem tyX6_ok : ∀ k, k < 2 → parseFieldDescriptor (TX6 k).2.2.1 = some (tyX6 k) := by decide +kernel
abbrev cX6_init : ByteArray := prog_8_method_1_code
def yX6_init : MethodName := ⟨RX6, "<init>", "()V"⟩
abbrev cX6_see : ByteArray := prog_8_method_2_code
def yX6_see : MethodName := ⟨RX6, "see", "(II)I"⟩
abbrev cX6_take : ByteArray := prog_8_method_3_code
def yX6_take : MethodName := ⟨RX6, "take", "(I)V"⟩
abbrev cX6_weight : ByteArray := prog_8_method_4_code
def yX6_weight : MethodName := ⟨RX6, "weight", "(I)I"⟩
def RX7 : String := "AssistRows$Tracks"
def TX7 : u_T := fun k => match k with
  | 0 => ("AssistRows$Tracks", "there", "[Z", true)
  | 1 => ("AssistRows$Tracks", "x", "[D", true)
  | 2 => ("AssistRows$Tracks", "y", "[D", true)
  | 3 => ("AssistRows$Tracks", "speed", "[D", true)
  | 4 => ("AssistRows$Tracks", "sure", "[I", true)
  | 5 => ("AssistRows$Tracks", "coast", "[I", true)
  | 6 => ("AssistRows$Tracks", "met", "[Z", true)
  | 7 => ("AssistRows$Tracks", "metSpeed", "[D", true)
  | 8 => ("AssistRows$Tracks", "pairing", "LAssistRows$Pairing;", true)
  | _ => ("AssistRows$Tracks", "differ", "Z", false)
def tyX7 : Nat → FieldType := fun k => match k with
  | 0 => .array .boolean
  | 1 => .array .double
  | 2 => .array .double
  | 3 => .array .double
  | 4 => .array .int
  | 5 => .array .int
  | 6 => .array .boolean
  | 7 => .array .double
  | 8 => .object "AssistRows$Pairing"
  | _ => .boolean
abbrev wsX70 : List Cond := u_ws RX7 TX7 10
theorem nmX7 : ∀ a, a < 10 → ∀ b, b < 10 → a ≠ b → (TX7 a).2.1 ≠ (TX7 b).2.1 := by decide +kernel
theorem tyX7_ok : ∀ k, k < 10 → parseFieldDescriptor (TX7 k).2.2.1 = some (tyX7 k) := by decide +kernel
abbrev cX7_init : ByteArray := prog_9_method_1_code
def yX7_init : MethodName := ⟨RX7, "<init>", "()V"⟩
abbrev cX7_isThere : ByteArray := prog_9_method_2_code
def yX7_isThere : MethodName := ⟨RX7, "isThere", "(I)Z"⟩
abbrev cX7_move : ByteArray := prog_9_method_3_code
def yX7_move : MethodName := ⟨RX7, "move", "(DD)V"⟩
abbrev cX7_forgetMeetings : ByteArray := prog_9_method_4_code
def yX7_forgetMeetings : MethodName := ⟨RX7, "forgetMeetings", "()V"⟩
abbrev cX7_meet : ByteArray := prog_9_method_5_code
def yX7_meet : MethodName := ⟨RX7, "meet", "(LAssistRows$Measures;)V"⟩
abbrev cX7_cost : ByteArray := prog_9_method_6_code
def yX7_cost : MethodName := ⟨RX7, "cost", "(IDD)I"⟩
abbrev cX7_join : ByteArray := prog_9_method_7_code
def yX7_join : MethodName := ⟨RX7, "join", "(IDDD)V"⟩
abbrev cX7_make : ByteArray := prog_9_method_8_code
def yX7_make : MethodName := ⟨RX7, "make", "(DDD)V"⟩
abbrev cX7_meeting : ByteArray := prog_9_method_9_code
def yX7_meeting : MethodName := ⟨RX7, "meeting", "(ID)V"⟩
abbrev cX7_age : ByteArray := prog_9_method_10_code
def yX7_age : MethodName := ⟨RX7, "age", "()V"⟩
abbrev cX7_leadOn : ByteArray := prog_9_method_11_code
def yX7_leadOn : MethodName := ⟨RX7, "leadOn", "(LAssistRows$Lane;)I"⟩
abbrev cX7_secondsTo : ByteArray := prog_9_method_12_code
def yX7_secondsTo : MethodName := ⟨RX7, "secondsTo", "(ID)D"⟩
abbrev cX7_read : ByteArray := prog_9_method_13_code
def yX7_read : MethodName := ⟨RX7, "read", "(II)I"⟩
def RX8 : String := "AssistRows"
def TX8 : u_T := fun k => match k with
  | 0 => ("AssistRows", "sensor0", "LAssistRows$Measures;", true)
  | 1 => ("AssistRows", "sensor1", "LAssistRows$Measures;", true)
  | 2 => ("AssistRows", "tracks", "LAssistRows$Tracks;", true)
  | 3 => ("AssistRows", "lane", "LAssistRows$Lane;", true)
  | 4 => ("AssistRows", "driver", "LAssistRows$Driver;", true)
  | 5 => ("AssistRows", "limits", "LAssistRows$Limits;", true)
  | 6 => ("AssistRows", "hands", "LAssistRows$Hands;", true)
  | 7 => ("AssistRows", "signs", "LAssistRows$Signs;", true)
  | 8 => ("AssistRows", "now", "D", false)
  | 9 => ("AssistRows", "speed", "D", false)
  | 10 => ("AssistRows", "differing", "I", false)
  | 11 => ("AssistRows", "stage", "I", false)
  | 12 => ("AssistRows", "mode", "I", false)
  | 13 => ("AssistRows", "pull", "D", false)
  | 14 => ("AssistRows", "turn", "D", false)
  | 15 => ("AssistRows", "left", "D", false)
  | _ => ("AssistRows", "leadX", "D", false)
def tyX8 : Nat → FieldType := fun k => match k with
  | 0 => .object "AssistRows$Measures"
  | 1 => .object "AssistRows$Measures"
  | 2 => .object "AssistRows$Tracks"
  | 3 => .object "AssistRows$Lane"
  | 4 => .object "AssistRows$Driver"
  | 5 => .object "AssistRows$Limits"
  | 6 => .object "AssistRows$Hands"
  | 7 => .object "AssistRows$Signs"
  | 8 => .double
  | 9 => .double
  | 10 => .int
  | 11 => .int
  | 12 => .int
  | 13 => .double
  | 14 => .double
  | 15 => .double
  | _ => .double
abbrev wsX80 : List Cond := u_ws RX8 TX8 17
theorem nmX8 : ∀ a, a < 17 → ∀ b, b < 17 → a ≠ b → (TX8 a).2.1 ≠ (TX8 b).2.1 := by decide +kernel
theorem tyX8_ok : ∀ k, k < 17 → parseFieldDescriptor (TX8 k).2.2.1 = some (tyX8 k) := by decide +kernel
abbrev cX8_init : ByteArray := prog_1_method_1_code
def yX8_init : MethodName := ⟨RX8, "<init>", "()V"⟩
abbrev cX8_object : ByteArray := prog_1_method_2_code
def yX8_object : MethodName := ⟨RX8, "object", "(IDDDD)I"⟩
abbrev cX8_lane : ByteArray := prog_1_method_3_code
def yX8_lane : MethodName := ⟨RX8, "lane", "(DDD)I"⟩
abbrev cX8_step : ByteArray := prog_1_method_4_code
def yX8_step : MethodName := ⟨RX8, "step", "(DD)I"⟩
abbrev cX8_wish : ByteArray := prog_1_method_5_code
def yX8_wish : MethodName := ⟨RX8, "wish", "(I)D"⟩
abbrev cX8_stage : ByteArray := prog_1_method_6_code
def yX8_stage : MethodName := ⟨RX8, "stage", "()I"⟩
abbrev cX8_time : ByteArray := prog_1_method_7_code
def yX8_time : MethodName := ⟨RX8, "time", "(I)D"⟩
abbrev cX8_whole : ByteArray := prog_1_method_8_code
def yX8_whole : MethodName := ⟨RX8, "whole", "(JJ)J"⟩
abbrev cX8_driver : ByteArray := prog_1_method_9_code
def yX8_driver : MethodName := ⟨RX8, "driver", "(ID)I"⟩
abbrev cX8_limit : ByteArray := prog_1_method_10_code
def yX8_limit : MethodName := ⟨RX8, "limit", "(ID)I"⟩
abbrev cX8_track : ByteArray := prog_1_method_11_code
def yX8_track : MethodName := ⟨RX8, "track", "(II)I"⟩
abbrev cX8_sign : ByteArray := prog_1_method_12_code
def yX8_sign : MethodName := ⟨RX8, "sign", "(II)I"⟩
abbrev cX8_hands : ByteArray := prog_1_method_13_code
def yX8_hands : MethodName := ⟨RX8, "hands", "(ZD)I"⟩
abbrev cX8_handOver : ByteArray := prog_1_method_14_code
def yX8_handOver : MethodName := ⟨RX8, "handOver", "(D)I"⟩
abbrev cX8_mode : ByteArray := prog_1_method_15_code
def yX8_mode : MethodName := ⟨RX8, "mode", "()I"⟩
abbrev cX8_isTime : ByteArray := prog_1_method_16_code
def yX8_isTime : MethodName := ⟨RX8, "isTime", "(D)Z"⟩
abbrev cX8_joinMeasures : ByteArray := prog_1_method_17_code
def yX8_joinMeasures : MethodName := ⟨RX8, "joinMeasures", "()V"⟩
abbrev cX8_dueStage : ByteArray := prog_1_method_18_code
def yX8_dueStage : MethodName := ⟨RX8, "dueStage", "()I"⟩
abbrev cX8_chosenMode : ByteArray := prog_1_method_19_code
def yX8_chosenMode : MethodName := ⟨RX8, "chosenMode", "(Z)I"⟩
abbrev cX8_keptPull : ByteArray := prog_1_method_20_code
def yX8_keptPull : MethodName := ⟨RX8, "keptPull", "(I)D"⟩
abbrev cX8_limitedPull : ByteArray := prog_1_method_21_code
def yX8_limitedPull : MethodName := ⟨RX8, "limitedPull", "(I)D"⟩
abbrev cX8_nextStage : ByteArray := prog_1_method_22_code
def yX8_nextStage : MethodName := ⟨RX8, "nextStage", "(II)I"⟩
abbrev cX8_turned : ByteArray := prog_1_method_23_code
def yX8_turned : MethodName := ⟨RX8, "turned", "(DD)D"⟩
abbrev cX8_within : ByteArray := prog_1_method_24_code
def yX8_within : MethodName := ⟨RX8, "within", "(DDD)Z"⟩
abbrev cX8_between : ByteArray := prog_1_method_25_code
def yX8_between : MethodName := ⟨RX8, "between", "(DDD)D"⟩
abbrev cX8_lesser : ByteArray := prog_1_method_26_code
def yX8_lesser : MethodName := ⟨RX8, "lesser", "(DD)D"⟩
abbrev cX8_greater : ByteArray := prog_1_method_27_code
def yX8_greater : MethodName := ⟨RX8, "greater", "(DD)D"⟩
abbrev cX8_magnitude : ByteArray := prog_1_method_28_code
def yX8_magnitude : MethodName := ⟨RX8, "magnitude", "(D)D"⟩
abbrev cX8_unsignedZero : ByteArray := prog_1_method_29_code
def yX8_unsignedZero : MethodName := ⟨RX8, "unsignedZero", "(D)D"⟩
def RX9 : String := "AssistRowsModel"
def TX9 : u_T := fun k => match k with
  | 0 => ("AssistRowsModel", "fault", "I", false)
  | 1 => ("AssistRowsModel", "now", "D", false)
  | 2 => ("AssistRowsModel", "speed", "D", false)
  | 3 => ("AssistRowsModel", "isThere", "[Z", true)
  | 4 => ("AssistRowsModel", "x", "[D", true)
  | 5 => ("AssistRowsModel", "y", "[D", true)
  | 6 => ("AssistRowsModel", "v", "[D", true)
  | 7 => ("AssistRowsModel", "sure", "[I", true)
  | 8 => ("AssistRowsModel", "coast", "[I", true)
  | 9 => ("AssistRowsModel", "many", "[I", true)
  | 10 => ("AssistRowsModel", "mx", "[D", true)
  | 11 => ("AssistRowsModel", "my", "[D", true)
  | 12 => ("AssistRowsModel", "mv", "[D", true)
  | 13 => ("AssistRowsModel", "taken", "[I", true)
  | 14 => ("AssistRowsModel", "way", "[I", true)
  | 15 => ("AssistRowsModel", "toldFirst", "[Z", true)
  | 16 => ("AssistRowsModel", "toldSecond", "[Z", true)
  | 17 => ("AssistRowsModel", "speedFirst", "[D", true)
  | 18 => ("AssistRowsModel", "differs", "Z", false)
  | 19 => ("AssistRowsModel", "differing", "I", false)
  | 20 => ("AssistRowsModel", "offset", "D", false)
  | 21 => ("AssistRowsModel", "slope", "D", false)
  | 22 => ("AssistRowsModel", "curve", "D", false)
  | 23 => ("AssistRowsModel", "pedal", "D", false)
  | 24 => ("AssistRowsModel", "brake", "D", false)
  | 25 => ("AssistRowsModel", "steer", "D", false)
  | 26 => ("AssistRowsModel", "isOn", "Z", false)
  | 27 => ("AssistRowsModel", "offAt", "D", false)
  | 28 => ("AssistRowsModel", "isAsked", "Z", false)
  | 29 => ("AssistRowsModel", "askedAt", "D", false)
  | 30 => ("AssistRowsModel", "isStopping", "Z", false)
  | 31 => ("AssistRowsModel", "wished", "D", false)
  | 32 => ("AssistRowsModel", "gap", "D", false)
  | 33 => ("AssistRowsModel", "braking", "D", false)
  | 34 => ("AssistRowsModel", "pull", "D", false)
  | 35 => ("AssistRowsModel", "lead", "I", false)
  | 36 => ("AssistRowsModel", "left", "D", false)
  | 37 => ("AssistRowsModel", "leadX", "D", false)
  | 38 => ("AssistRowsModel", "stage", "I", false)
  | 39 => ("AssistRowsModel", "mode", "I", false)
  | 40 => ("AssistRowsModel", "force", "D", false)
  | 41 => ("AssistRowsModel", "wheel", "D", false)
  | 42 => ("AssistRowsModel", "counts", "[I", true)
  | _ => ("AssistRowsModel", "sign", "I", false)
def tyX9 : Nat → FieldType := fun k => match k with
  | 0 => .int
  | 1 => .double
  | 2 => .double
  | 3 => .array .boolean
  | 4 => .array .double
  | 5 => .array .double
  | 6 => .array .double
  | 7 => .array .int
  | 8 => .array .int
  | 9 => .array .int
  | 10 => .array .double
  | 11 => .array .double
  | 12 => .array .double
  | 13 => .array .int
  | 14 => .array .int
  | 15 => .array .boolean
  | 16 => .array .boolean
  | 17 => .array .double
  | 18 => .boolean
  | 19 => .int
  | 20 => .double
  | 21 => .double
  | 22 => .double
  | 23 => .double
  | 24 => .double
  | 25 => .double
  | 26 => .boolean
  | 27 => .double
  | 28 => .boolean
  | 29 => .double
  | 30 => .boolean
  | 31 => .double
  | 32 => .double
  | 33 => .double
  | 34 => .double
  | 35 => .int
  | 36 => .double
  | 37 => .double
  | 38 => .int
  | 39 => .int
  | 40 => .double
  | 41 => .double
  | 42 => .array .int
  | _ => .int
abbrev wsX90 : List Cond := u_ws RX9 TX9 44
theorem nmX9 : ∀ a, a < 44 → ∀ b, b < 44 → a ≠ b → (TX9 a).2.1 ≠ (TX9 b).2.1 := by decide +kernel
theorem tyX9_ok : ∀ k, k < 44 → parseFieldDescriptor (TX9 k).2.2.1 = some (tyX9 k) := by decide +kernel
abbrev cX9_init : ByteArray := prog_11_method_1_code
def yX9_init : MethodName := ⟨RX9, "<init>", "()V"⟩
abbrev cX9_thrown : ByteArray := prog_11_method_2_code
def yX9_thrown : MethodName := ⟨RX9, "thrown", "()I"⟩
abbrev cX9_in : ByteArray := prog_11_method_3_code
def yX9_in : MethodName := ⟨RX9, "in", "(DDD)Z"⟩
abbrev cX9_size : ByteArray := prog_11_method_4_code
def yX9_size : MethodName := ⟨RX9, "size", "(D)D"⟩
abbrev cX9_between : ByteArray := prog_11_method_5_code
def yX9_between : MethodName := ⟨RX9, "between", "(DDD)D"⟩
abbrev cX9_object : ByteArray := prog_11_method_6_code
def yX9_object : MethodName := ⟨RX9, "object", "(IDDDD)I"⟩
abbrev cX9_lane : ByteArray := prog_11_method_7_code
def yX9_lane : MethodName := ⟨RX9, "lane", "(DDD)I"⟩
abbrev cX9_driver : ByteArray := prog_11_method_8_code
def yX9_driver : MethodName := ⟨RX9, "driver", "(ID)I"⟩
abbrev cX9_limit : ByteArray := prog_11_method_9_code
def yX9_limit : MethodName := ⟨RX9, "limit", "(ID)I"⟩
abbrev cX9_hands : ByteArray := prog_11_method_10_code
def yX9_hands : MethodName := ⟨RX9, "hands", "(ZD)I"⟩
abbrev cX9_handOver : ByteArray := prog_11_method_11_code
def yX9_handOver : MethodName := ⟨RX9, "handOver", "(D)I"⟩
abbrev cX9_sign : ByteArray := prog_11_method_12_code
def yX9_sign : MethodName := ⟨RX9, "sign", "(II)I"⟩
abbrev cX9_may : ByteArray := prog_11_method_13_code
def yX9_may : MethodName := ⟨RX9, "may", "(II)Z"⟩
abbrev cX9_cost : ByteArray := prog_11_method_14_code
def yX9_cost : MethodName := ⟨RX9, "cost", "(II)I"⟩
abbrev cX9_isWay : ByteArray := prog_11_method_15_code
def yX9_isWay : MethodName := ⟨RX9, "isWay", "(I)Z"⟩
abbrev cX9_findWay : ByteArray := prog_11_method_16_code
def yX9_findWay : MethodName := ⟨RX9, "findWay", "(I)V"⟩
abbrev cX9_tell : ByteArray := prog_11_method_17_code
def yX9_tell : MethodName := ⟨RX9, "tell", "(IID)V"⟩
abbrev cX9_joinSensor : ByteArray := prog_11_method_18_code
def yX9_joinSensor : MethodName := ⟨RX9, "joinSensor", "(I)V"⟩
abbrev cX9_begin : ByteArray := prog_11_method_19_code
def yX9_begin : MethodName := ⟨RX9, "begin", "(II)V"⟩
abbrev cX9_coastAll : ByteArray := prog_11_method_20_code
def yX9_coastAll : MethodName := ⟨RX9, "coastAll", "()V"⟩
abbrev cX9_findLead : ByteArray := prog_11_method_21_code
def yX9_findLead : MethodName := ⟨RX9, "findLead", "()V"⟩
abbrev cX9_rise : ByteArray := prog_11_method_22_code
def yX9_rise : MethodName := ⟨RX9, "rise", "()V"⟩
abbrev cX9_off : ByteArray := prog_11_method_23_code
def yX9_off : MethodName := ⟨RX9, "off", "()D"⟩
abbrev cX9_lookAtHands : ByteArray := prog_11_method_24_code
def yX9_lookAtHands : MethodName := ⟨RX9, "lookAtHands", "()V"⟩
abbrev cX9_findMode : ByteArray := prog_11_method_25_code
def yX9_findMode : MethodName := ⟨RX9, "findMode", "()I"⟩
abbrev cX9_findForce : ByteArray := prog_11_method_26_code
def yX9_findForce : MethodName := ⟨RX9, "findForce", "()D"⟩
abbrev cX9_turn : ByteArray := prog_11_method_27_code
def yX9_turn : MethodName := ⟨RX9, "turn", "()V"⟩
abbrev cX9_step : ByteArray := prog_11_method_28_code
def yX9_step : MethodName := ⟨RX9, "step", "(DD)I"⟩
abbrev cX9_plain : ByteArray := prog_11_method_29_code
def yX9_plain : MethodName := ⟨RX9, "plain", "(D)D"⟩
abbrev cX9_wish : ByteArray := prog_11_method_30_code
def yX9_wish : MethodName := ⟨RX9, "wish", "(I)D"⟩
abbrev cX9_stage : ByteArray := prog_11_method_31_code
def yX9_stage : MethodName := ⟨RX9, "stage", "()I"⟩
abbrev cX9_mode : ByteArray := prog_11_method_32_code
def yX9_mode : MethodName := ⟨RX9, "mode", "()I"⟩
abbrev cX9_time : ByteArray := prog_11_method_33_code
def yX9_time : MethodName := ⟨RX9, "time", "(I)D"⟩
abbrev cX9_whole : ByteArray := prog_11_method_34_code
def yX9_whole : MethodName := ⟨RX9, "whole", "(JJ)J"⟩
abbrev cX9_track : ByteArray := prog_11_method_35_code
def yX9_track : MethodName := ⟨RX9, "track", "(II)I"⟩
def RJ0 : String := "java/lang/String"
def TJ0 : u_T := fun k => match k with
  | _ => ("", "", "", false)
def tyJ0 : Nat → FieldType := fun k => match k with
  | _ => .int
abbrev wsJ00 : List Cond := u_ws RJ0 TJ0 0
theorem nmJ0 : ∀ a, a < 0 → ∀ b, b < 0 → a ≠ b → (TJ0 a).2.1 ≠ (TJ0 b).2.1 := by decide +kernel
theorem tyJ0_ok : ∀ k, k < 0 → parseFieldDescriptor (TJ0 k).2.2.1 = some (tyJ0 k) := by decide +kernel
def RL : String := "AssistRowsLaw"
abbrev cL_whole : ByteArray := method_3_code
def yL_whole : MethodName := ⟨RL, "whole", "(LAssistRows;JJ[J)I"⟩
abbrev cL_law : ByteArray := code
def yL_law : MethodName := ⟨RL, "law", "([I)Z"⟩
def wsX0_init : List Cond := .code yX0_init cX0_init 1 none :: ([.methodLink RX0 1 objectInit, .instanceMethod objectInit, .code objectInit ⟨#[0xb1]⟩ 1 none])
def wsX8_within : List Cond := .code yX8_within cX8_within 6 (some .boolean) :: ([])
def wsX0_tell : List Cond := .code yX0_tell cX0_tell 4 (some .boolean) :: ([.constantDouble RX0 7 (13830554455654793216), .fieldLink RX0 15 "AssistRows$Driver" "pedal" "D", .fieldLink RX0 21 "AssistRows$Driver" "brake" "D", .fieldLink RX0 24 "AssistRows$Driver" "steer" "D", .static yX8_within, .initialized RX8, .code yX8_within cX8_within 6 (some .boolean)] ++ wsX00)
def wsX8_magnitude : List Cond := .code yX8_magnitude cX8_magnitude 2 (some .double) :: ([])
def wsX0_steers : List Cond := .code yX0_steers cX0_steers 3 (some .boolean) :: ([.fieldLink RX0 24 "AssistRows$Driver" "steer" "D", .static yX8_magnitude, .initialized RX8, .code yX8_magnitude cX8_magnitude 2 (some .double)] ++ wsX00)
def wsX1_init : List Cond := .code yX1_init cX1_init 1 none :: ([.methodLink RX1 1 objectInit, .instanceMethod objectInit, .code objectInit ⟨#[0xb1]⟩ 1 none, .fieldLink RX1 7 "AssistRows$Hands" "on" "Z"] ++ wsX10)
def wsX1_tell : List Cond := .code yX1_tell cX1_tell 4 (some .boolean) :: ([.fieldLink RX1 7 "AssistRows$Hands" "on" "Z", .fieldLink RX1 13 "AssistRows$Hands" "changedAt" "D"] ++ wsX10)
def wsX1_ask : List Cond := .code yX1_ask cX1_ask 3 (some .boolean) :: ([.fieldLink RX1 17 "AssistRows$Hands" "asked" "Z", .fieldLink RX1 7 "AssistRows$Hands" "on" "Z", .fieldLink RX1 20 "AssistRows$Hands" "stopping" "Z", .fieldLink RX1 23 "AssistRows$Hands" "askedAt" "D"] ++ wsX10)
def wsX1_off : List Cond := .code yX1_off cX1_off 3 (some .double) :: ([.fieldLink RX1 7 "AssistRows$Hands" "on" "Z", .fieldLink RX1 13 "AssistRows$Hands" "changedAt" "D"] ++ wsX10)
def wsX1_pass : List Cond := .code yX1_pass cX1_pass 5 none :: ([.fieldLink RX1 7 "AssistRows$Hands" "on" "Z", .fieldLink RX1 17 "AssistRows$Hands" "asked" "Z", .fieldLink RX1 20 "AssistRows$Hands" "stopping" "Z", .constantDouble RX1 30 (4630826316843712512), .fieldLink RX1 23 "AssistRows$Hands" "askedAt" "D", .constantDouble RX1 32 (4621819117588971520), .methodLink RX1 26 yX1_off, .instanceMethod yX1_off, .selects RX1 yX1_off yX1_off, .initialized RX1, .code yX1_off cX1_off 3 (some .double), .fieldLink RX1 13 "AssistRows$Hands" "changedAt" "D"] ++ wsX10)
def wsX2_init : List Cond := .code yX2_init cX2_init 1 none :: ([.methodLink RX2 1 objectInit, .instanceMethod objectInit, .code objectInit ⟨#[0xb1]⟩ 1 none])
def wsX2_middle : List Cond := .code yX2_middle cX2_middle 3 (some .double) :: ([.fieldLink RX2 7 "AssistRows$Lane" "offset" "D", .fieldLink RX2 13 "AssistRows$Lane" "slope" "D", .fieldLink RX2 16 "AssistRows$Lane" "curve" "D"] ++ wsX20)
def wsX8_lesser : List Cond := .code yX8_lesser cX8_lesser 4 (some .double) :: ([])
def wsX8_greater : List Cond := .code yX8_greater cX8_greater 4 (some .double) :: ([])
def wsX8_between : List Cond := .code yX8_between cX8_between 6 (some .double) :: ([.methodLink RX8 272 yX8_lesser, .static yX8_lesser, .initialized RX8, .code yX8_lesser cX8_lesser 4 (some .double), .methodLink RX8 286 yX8_greater, .static yX8_greater, .code yX8_greater cX8_greater 4 (some .double)])
def wsX2_straightening : List Cond := .code yX2_straightening cX2_straightening 1 (some .double) :: ([.constantDouble RX2 19 (4591870180066957722), .fieldLink RX2 7 "AssistRows$Lane" "offset" "D", .constantDouble RX2 21 (4602678819172646912), .fieldLink RX2 13 "AssistRows$Lane" "slope" "D", .constantDouble RX2 23 (13822447976325526323), .constantDouble RX2 25 (4599075939470750515), .static yX8_between, .initialized RX8, .code yX8_between cX8_between 6 (some .double), .methodLink RX8 272 yX8_lesser, .static yX8_lesser, .code yX8_lesser cX8_lesser 4 (some .double), .methodLink RX8 286 yX8_greater, .static yX8_greater, .code yX8_greater cX8_greater 4 (some .double)] ++ wsX20)
def wsX3_init : List Cond := .code yX3_init cX3_init 1 none :: ([.methodLink RX3 1 objectInit, .instanceMethod objectInit, .code objectInit ⟨#[0xb1]⟩ 1 none, .fieldLink RX3 7 "AssistRows$Limits" "speed" "D", .constantDouble RX3 13 (4609434218613702656), .fieldLink RX3 15 "AssistRows$Limits" "gap" "D", .constantDouble RX3 18 (4621256167635550208), .fieldLink RX3 20 "AssistRows$Limits" "braking" "D", .constantDouble RX3 23 (4611686018427387904), .fieldLink RX3 25 "AssistRows$Limits" "pull" "D"] ++ wsX30)
def wsX3_fits : List Cond := .code yX3_fits cX3_fits 3 (some .boolean) :: ([.constantDouble RX3 32 (4633641066610819072), .constantDouble RX3 40 (4602678819172646912), .constantDouble RX3 42 (4613937818241073152), .constantDouble RX3 18 (4621256167635550208), .static yX8_within, .initialized RX8, .code yX8_within cX8_within 6 (some .boolean)])
def wsX3_tell : List Cond := .code yX3_tell cX3_tell 4 (some .boolean) :: ([.fieldLink RX3 7 "AssistRows$Limits" "speed" "D", .fieldLink RX3 15 "AssistRows$Limits" "gap" "D", .fieldLink RX3 20 "AssistRows$Limits" "braking" "D", .fieldLink RX3 25 "AssistRows$Limits" "pull" "D", .methodLink RX3 28 yX3_fits, .static yX3_fits, .initialized RX3, .code yX3_fits cX3_fits 3 (some .boolean), .constantDouble RX3 32 (4633641066610819072), .constantDouble RX3 40 (4602678819172646912), .constantDouble RX3 42 (4613937818241073152), .constantDouble RX3 18 (4621256167635550208), .static yX8_within, .initialized RX8, .code yX8_within cX8_within 6 (some .boolean)] ++ wsX30)
def wsX4_init : List Cond := .code yX4_init cX4_init 1 none :: ([.methodLink RX4 3 objectInit, .instanceMethod objectInit, .code objectInit ⟨#[0xb1]⟩ 1 none, .arrayClass .double, .fieldLink RX4 9 "AssistRows$Measures" "x" "[D", .fieldLink RX4 15 "AssistRows$Measures" "y" "[D", .fieldLink RX4 18 "AssistRows$Measures" "speed" "[D"] ++ wsX40)
def wsX4_add : List Cond := .code yX4_add cX4_add 7 (some .int) :: ([.fieldLink RX4 21 "AssistRows$Measures" "count" "I", .fieldLink RX4 9 "AssistRows$Measures" "x" "[D", .fieldLink RX4 15 "AssistRows$Measures" "y" "[D", .fieldLink RX4 18 "AssistRows$Measures" "speed" "[D"] ++ wsX40)
def wsX5_init : List Cond := .code yX5_init cX5_init 1 none :: ([.methodLink RX5 3 objectInit, .instanceMethod objectInit, .code objectInit ⟨#[0xb1]⟩ 1 none, .arrayClass .int, .fieldLink RX5 9 "AssistRows$Pairing" "best" "[I", .fieldLink RX5 15 "AssistRows$Pairing" "tried" "[I", .fieldLink RX5 18 "AssistRows$Pairing" "costs" "[I", .arrayClass .boolean, .fieldLink RX5 21 "AssistRows$Pairing" "taken" "[Z"] ++ wsX50)
def wsX7_isThere : List Cond := .code yX7_isThere cX7_isThere 2 (some .boolean) :: ([.fieldLink RX7 9 "AssistRows$Tracks" "there" "[Z"] ++ wsX70)
def wsX7_cost : List Cond := .code yX7_cost cX7_cost 10 (some .int) :: ([.fieldLink RX7 15 "AssistRows$Tracks" "x" "[D", .fieldLink RX7 19 "AssistRows$Tracks" "y" "[D", .constantDouble RX7 81 (4617315517961601024), .constantDouble RX7 83 (4611686018427387904), .constantDouble RX7 85 (4636737291354636288), .methodLink RX7 62 yX7_isThere, .instanceMethod yX7_isThere, .selects RX7 yX7_isThere yX7_isThere, .initialized RX7, .code yX7_isThere cX7_isThere 2 (some .boolean), .fieldLink RX7 9 "AssistRows$Tracks" "there" "[Z", .static yX8_magnitude, .initialized RX8, .code yX8_magnitude cX8_magnitude 2 (some .double)] ++ wsX70)
def wsX5_keep : List Cond := .code yX5_keep cX5_keep 4 none :: ([.fieldLink RX5 32 "AssistRows$Pairing" "bestJoined" "I", .fieldLink RX5 35 "AssistRows$Pairing" "bestSum" "I", .fieldLink RX5 9 "AssistRows$Pairing" "best" "[I", .fieldLink RX5 15 "AssistRows$Pairing" "tried" "[I"] ++ wsX50)
def wsX5_search : List Cond := .code yX5_search cX5_search 7 none :: ([.fieldLink RX5 31 "AssistRows$Pairing" "count" "I", .fieldLink RX5 32 "AssistRows$Pairing" "bestJoined" "I", .fieldLink RX5 35 "AssistRows$Pairing" "bestSum" "I", .fieldLink RX5 18 "AssistRows$Pairing" "costs" "[I", .fieldLink RX5 21 "AssistRows$Pairing" "taken" "[Z", .fieldLink RX5 15 "AssistRows$Pairing" "tried" "[I", .methodLink RX5 55 yX5_keep, .instanceMethod yX5_keep, .selects RX5 yX5_keep yX5_keep, .initialized RX5, .code yX5_keep cX5_keep 4 none, .fieldLink RX5 9 "AssistRows$Pairing" "best" "[I", .methodLink RX5 51 yX5_search, .static yX5_search] ++ wsX50)
def wsX5_solve_r1 : List Cond := [Cond.fieldLink RX5 25 "AssistRows$Measures" "count" "I", Cond.fieldLink RX5 31 "AssistRows$Pairing" "count" "I", Cond.fieldLink RX5 32 "AssistRows$Pairing" "bestJoined" "I", Cond.fieldLink RX5 35 "AssistRows$Pairing" "bestSum" "I", Cond.fieldLink RX5 18 "AssistRows$Pairing" "costs" "[I", Cond.fieldLink RX5 38 "AssistRows$Measures" "x" "[D", Cond.fieldLink RX5 42 "AssistRows$Measures" "y" "[D", Cond.methodLink RX5 45 yX7_cost, Cond.instanceMethod yX7_cost, Cond.selects RX7 yX7_cost yX7_cost, Cond.initialized RX7, Cond.code yX7_cost cX7_cost 10 (some .int), Cond.fieldLink RX7 15 "AssistRows$Tracks" "x" "[D", Cond.fieldLink RX7 19 "AssistRows$Tracks" "y" "[D", Cond.constantDouble RX7 81 (4617315517961601024), Cond.constantDouble RX7 83 (4611686018427387904), Cond.constantDouble RX7 85 (4636737291354636288), Cond.methodLink RX7 62 yX7_isThere, Cond.instanceMethod yX7_isThere, Cond.selects RX7 yX7_isThere yX7_isThere, Cond.code yX7_isThere cX7_isThere 2 (some .boolean), Cond.fieldLink RX7 9 "AssistRows$Tracks" "there" "[Z", Cond.static yX8_magnitude, Cond.initialized RX8]
def wsX5_solve_r2 : List Cond := [Cond.code yX8_magnitude cX8_magnitude 2 (some .double), Cond.methodLink RX5 51 yX5_search, Cond.static yX5_search, Cond.initialized RX5, Cond.code yX5_search cX5_search 7 none, Cond.fieldLink RX5 21 "AssistRows$Pairing" "taken" "[Z", Cond.fieldLink RX5 15 "AssistRows$Pairing" "tried" "[I", Cond.methodLink RX5 55 yX5_keep, Cond.instanceMethod yX5_keep, Cond.selects RX5 yX5_keep yX5_keep, Cond.code yX5_keep cX5_keep 4 none, Cond.fieldLink RX5 9 "AssistRows$Pairing" "best" "[I"]
def wsX5_solve : List Cond := .code yX5_solve cX5_solve 5 none :: ((wsX5_solve_r1 ++ wsX5_solve_r2) ++ wsX40 ++ wsX50 ++ wsX70)
def wsX6_init : List Cond := .code yX6_init cX6_init 1 none :: ([.methodLink RX6 3 objectInit, .instanceMethod objectInit, .code objectInit ⟨#[0xb1]⟩ 1 none, .arrayClass .int, .fieldLink RX6 9 "AssistRows$Signs" "counts" "[I"] ++ wsX60)
def wsX6_weight : List Cond := .code yX6_weight cX6_weight 1 (some .int) :: ([])
def wsX6_take : List Cond := .code yX6_take cX6_take 3 none :: ([.fieldLink RX6 23 "AssistRows$Signs" "taken" "I", .fieldLink RX6 9 "AssistRows$Signs" "counts" "[I"] ++ wsX60)
def wsX6_see : List Cond := .code yX6_see cX6_see 5 (some .int) :: ([.fieldLink RX6 9 "AssistRows$Signs" "counts" "[I", .fieldLink RX6 23 "AssistRows$Signs" "taken" "I", .methodLink RX6 15 yX6_weight, .static yX6_weight, .initialized RX6, .code yX6_weight cX6_weight 1 (some .int), .methodLink RX6 19 yX6_take, .instanceMethod yX6_take, .selects RX6 yX6_take yX6_take, .code yX6_take cX6_take 3 none] ++ wsX60)
def wsX7_init_r1 : List Cond := [Cond.methodLink RX7 3 objectInit, Cond.instanceMethod objectInit, Cond.code objectInit ⟨#[0xb1]⟩ 1 none, Cond.arrayClass .boolean, Cond.fieldLink RX7 9 "AssistRows$Tracks" "there" "[Z", Cond.arrayClass .double, Cond.fieldLink RX7 15 "AssistRows$Tracks" "x" "[D", Cond.fieldLink RX7 19 "AssistRows$Tracks" "y" "[D", Cond.fieldLink RX7 22 "AssistRows$Tracks" "speed" "[D", Cond.arrayClass .int, Cond.fieldLink RX7 25 "AssistRows$Tracks" "sure" "[I", Cond.fieldLink RX7 29 "AssistRows$Tracks" "coast" "[I", Cond.fieldLink RX7 32 "AssistRows$Tracks" "met" "[Z", Cond.fieldLink RX7 35 "AssistRows$Tracks" "metSpeed" "[D", Cond.classLink RX7 38 RX5, Cond.instantiable RX5 7, Cond.initialized RX5, Cond.fieldLink RX7 41 "AssistRows$Tracks" "pairing" "LAssistRows$Pairing;", Cond.instanceMethod yX5_init, Cond.code yX5_init cX5_init 1 none, Cond.methodLink RX5 3 objectInit, Cond.fieldLink RX5 9 "AssistRows$Pairing" "best" "[I", Cond.fieldLink RX5 15 "AssistRows$Pairing" "tried" "[I", Cond.fieldLink RX5 18 "AssistRows$Pairing" "costs" "[I"]
def wsX7_init_r2 : List Cond := [Cond.fieldLink RX5 21 "AssistRows$Pairing" "taken" "[Z"]
def wsX7_init : List Cond := .code yX7_init cX7_init 1 none :: ((wsX7_init_r1 ++ wsX7_init_r2) ++ wsX70 ++ wsX50)
def wsX7_move : List Cond := .code yX7_move cX7_move 6 none :: ([.fieldLink RX7 9 "AssistRows$Tracks" "there" "[Z", .fieldLink RX7 15 "AssistRows$Tracks" "x" "[D", .fieldLink RX7 22 "AssistRows$Tracks" "speed" "[D"] ++ wsX70)
def wsX7_forgetMeetings : List Cond := .code yX7_forgetMeetings cX7_forgetMeetings 2 none :: ([.fieldLink RX7 45 "AssistRows$Tracks" "differ" "Z", .fieldLink RX7 32 "AssistRows$Tracks" "met" "[Z"] ++ wsX70)
def wsX7_meeting : List Cond := .code yX7_meeting cX7_meeting 4 none :: ([.fieldLink RX7 29 "AssistRows$Tracks" "coast" "[I", .fieldLink RX7 32 "AssistRows$Tracks" "met" "[Z", .fieldLink RX7 35 "AssistRows$Tracks" "metSpeed" "[D"] ++ wsX70)
def wsX7_join : List Cond := .code yX7_join cX7_join 8 none :: ([.fieldLink RX7 32 "AssistRows$Tracks" "met" "[Z", .fieldLink RX7 35 "AssistRows$Tracks" "metSpeed" "[D", .constantDouble RX7 81 (4617315517961601024), .fieldLink RX7 45 "AssistRows$Tracks" "differ" "Z", .fieldLink RX7 15 "AssistRows$Tracks" "x" "[D", .constantDouble RX7 87 (4602678819172646912), .fieldLink RX7 19 "AssistRows$Tracks" "y" "[D", .fieldLink RX7 22 "AssistRows$Tracks" "speed" "[D", .constantDouble RX7 89 (4598175219545276416), .fieldLink RX7 25 "AssistRows$Tracks" "sure" "[I", .static yX8_magnitude, .initialized RX8, .code yX8_magnitude cX8_magnitude 2 (some .double), .methodLink RX7 91 yX7_meeting, .instanceMethod yX7_meeting, .selects RX7 yX7_meeting yX7_meeting, .initialized RX7, .code yX7_meeting cX7_meeting 4 none, .fieldLink RX7 29 "AssistRows$Tracks" "coast" "[I"] ++ wsX70)
def wsX7_make : List Cond := .code yX7_make cX7_make 8 none :: ([.fieldLink RX7 9 "AssistRows$Tracks" "there" "[Z", .fieldLink RX7 15 "AssistRows$Tracks" "x" "[D", .fieldLink RX7 19 "AssistRows$Tracks" "y" "[D", .fieldLink RX7 22 "AssistRows$Tracks" "speed" "[D", .fieldLink RX7 25 "AssistRows$Tracks" "sure" "[I", .methodLink RX7 91 yX7_meeting, .instanceMethod yX7_meeting, .selects RX7 yX7_meeting yX7_meeting, .initialized RX7, .code yX7_meeting cX7_meeting 4 none, .fieldLink RX7 29 "AssistRows$Tracks" "coast" "[I", .fieldLink RX7 32 "AssistRows$Tracks" "met" "[Z", .fieldLink RX7 35 "AssistRows$Tracks" "metSpeed" "[D"] ++ wsX70)
def wsX7_meet_r1 : List Cond := [Cond.fieldLink RX7 41 "AssistRows$Tracks" "pairing" "LAssistRows$Pairing;", Cond.fieldLink RX7 53 "AssistRows$Measures" "count" "I", Cond.fieldLink RX7 59 "AssistRows$Pairing" "best" "[I", Cond.fieldLink RX7 66 "AssistRows$Measures" "x" "[D", Cond.fieldLink RX7 67 "AssistRows$Measures" "y" "[D", Cond.fieldLink RX7 68 "AssistRows$Measures" "speed" "[D", Cond.methodLink RX7 49 yX5_solve, Cond.instanceMethod yX5_solve, Cond.selects RX5 yX5_solve yX5_solve, Cond.initialized RX5, Cond.code yX5_solve cX5_solve 5 none, Cond.fieldLink RX5 25 "AssistRows$Measures" "count" "I", Cond.fieldLink RX5 31 "AssistRows$Pairing" "count" "I", Cond.fieldLink RX5 32 "AssistRows$Pairing" "bestJoined" "I", Cond.fieldLink RX5 35 "AssistRows$Pairing" "bestSum" "I", Cond.fieldLink RX5 18 "AssistRows$Pairing" "costs" "[I", Cond.fieldLink RX5 38 "AssistRows$Measures" "x" "[D", Cond.fieldLink RX5 42 "AssistRows$Measures" "y" "[D", Cond.methodLink RX5 45 yX7_cost, Cond.instanceMethod yX7_cost, Cond.selects RX7 yX7_cost yX7_cost, Cond.initialized RX7, Cond.code yX7_cost cX7_cost 10 (some .int), Cond.fieldLink RX7 15 "AssistRows$Tracks" "x" "[D"]
def wsX7_meet_r2 : List Cond := [Cond.fieldLink RX7 19 "AssistRows$Tracks" "y" "[D", Cond.constantDouble RX7 81 (4617315517961601024), Cond.constantDouble RX7 83 (4611686018427387904), Cond.constantDouble RX7 85 (4636737291354636288), Cond.methodLink RX7 62 yX7_isThere, Cond.instanceMethod yX7_isThere, Cond.selects RX7 yX7_isThere yX7_isThere, Cond.code yX7_isThere cX7_isThere 2 (some .boolean), Cond.fieldLink RX7 9 "AssistRows$Tracks" "there" "[Z", Cond.static yX8_magnitude, Cond.initialized RX8, Cond.code yX8_magnitude cX8_magnitude 2 (some .double), Cond.methodLink RX5 51 yX5_search, Cond.static yX5_search, Cond.code yX5_search cX5_search 7 none, Cond.fieldLink RX5 21 "AssistRows$Pairing" "taken" "[Z", Cond.fieldLink RX5 15 "AssistRows$Pairing" "tried" "[I", Cond.methodLink RX5 55 yX5_keep, Cond.instanceMethod yX5_keep, Cond.selects RX5 yX5_keep yX5_keep, Cond.code yX5_keep cX5_keep 4 none, Cond.fieldLink RX5 9 "AssistRows$Pairing" "best" "[I", Cond.methodLink RX7 69 yX7_join, Cond.instanceMethod yX7_join]
def wsX7_meet_r3 : List Cond := [Cond.selects RX7 yX7_join yX7_join, Cond.code yX7_join cX7_join 8 none, Cond.fieldLink RX7 32 "AssistRows$Tracks" "met" "[Z", Cond.fieldLink RX7 35 "AssistRows$Tracks" "metSpeed" "[D", Cond.fieldLink RX7 45 "AssistRows$Tracks" "differ" "Z", Cond.constantDouble RX7 87 (4602678819172646912), Cond.fieldLink RX7 22 "AssistRows$Tracks" "speed" "[D", Cond.constantDouble RX7 89 (4598175219545276416), Cond.fieldLink RX7 25 "AssistRows$Tracks" "sure" "[I", Cond.methodLink RX7 91 yX7_meeting, Cond.instanceMethod yX7_meeting, Cond.selects RX7 yX7_meeting yX7_meeting, Cond.code yX7_meeting cX7_meeting 4 none, Cond.fieldLink RX7 29 "AssistRows$Tracks" "coast" "[I", Cond.methodLink RX7 73 yX7_make, Cond.instanceMethod yX7_make, Cond.selects RX7 yX7_make yX7_make, Cond.code yX7_make cX7_make 8 none]
def wsX7_meet : List Cond := .code yX7_meet cX7_meet 4 none :: ((wsX7_meet_r1 ++ (wsX7_meet_r2 ++ wsX7_meet_r3)) ++ wsX70 ++ wsX40 ++ wsX50)
def wsX7_age : List Cond := .code yX7_age cX7_age 2 none :: ([.fieldLink RX7 9 "AssistRows$Tracks" "there" "[Z", .fieldLink RX7 32 "AssistRows$Tracks" "met" "[Z", .fieldLink RX7 29 "AssistRows$Tracks" "coast" "[I", .fieldLink RX7 25 "AssistRows$Tracks" "sure" "[I", .fieldLink RX7 15 "AssistRows$Tracks" "x" "[D", .constantDouble RX7 95 (4643000109586448384)] ++ wsX70)
def wsX7_leadOn : List Cond := .code yX7_leadOn cX7_leadOn 7 (some .int) :: ([.fieldLink RX7 9 "AssistRows$Tracks" "there" "[Z", .fieldLink RX7 25 "AssistRows$Tracks" "sure" "[I", .fieldLink RX7 19 "AssistRows$Tracks" "y" "[D", .fieldLink RX7 15 "AssistRows$Tracks" "x" "[D", .constantDouble RX7 102 (4610560118520545280), .methodLink RX7 97 yX2_middle, .instanceMethod yX2_middle, .selects RX2 yX2_middle yX2_middle, .initialized RX2, .code yX2_middle cX2_middle 3 (some .double), .fieldLink RX2 7 "AssistRows$Lane" "offset" "D", .fieldLink RX2 13 "AssistRows$Lane" "slope" "D", .fieldLink RX2 16 "AssistRows$Lane" "curve" "D", .static yX8_magnitude, .initialized RX8, .code yX8_magnitude cX8_magnitude 2 (some .double)] ++ wsX70 ++ wsX20)
def wsX7_secondsTo : List Cond := .code yX7_secondsTo cX7_secondsTo 6 (some .double) :: ([.constantDouble RX7 104 (13830554455654793216), .fieldLink RX7 22 "AssistRows$Tracks" "speed" "[D", .fieldLink RX7 15 "AssistRows$Tracks" "x" "[D", .methodLink RX7 62 yX7_isThere, .instanceMethod yX7_isThere, .selects RX7 yX7_isThere yX7_isThere, .initialized RX7, .code yX7_isThere cX7_isThere 2 (some .boolean), .fieldLink RX7 9 "AssistRows$Tracks" "there" "[Z"] ++ wsX70)
def wsX7_read : List Cond := .code yX7_read cX7_read 3 (some .int) :: ([.fieldLink RX7 25 "AssistRows$Tracks" "sure" "[I", .fieldLink RX7 29 "AssistRows$Tracks" "coast" "[I", .fieldLink RX7 15 "AssistRows$Tracks" "x" "[D", .constantDouble RX7 85 (4636737291354636288), .fieldLink RX7 19 "AssistRows$Tracks" "y" "[D", .fieldLink RX7 22 "AssistRows$Tracks" "speed" "[D", .methodLink RX7 62 yX7_isThere, .instanceMethod yX7_isThere, .selects RX7 yX7_isThere yX7_isThere, .initialized RX7, .code yX7_isThere cX7_isThere 2 (some .boolean), .fieldLink RX7 9 "AssistRows$Tracks" "there" "[Z"] ++ wsX70)
def wsX8_init_r1 : List Cond := [Cond.methodLink RX8 1 objectInit, Cond.instanceMethod objectInit, Cond.code objectInit ⟨#[0xb1]⟩ 1 none, Cond.classLink RX8 7 RX4, Cond.instantiable RX4 4, Cond.initialized RX4, Cond.fieldLink RX8 10 "AssistRows" "sensor0" "LAssistRows$Measures;", Cond.fieldLink RX8 16 "AssistRows" "sensor1" "LAssistRows$Measures;", Cond.classLink RX8 19 RX7, Cond.instantiable RX7 10, Cond.initialized RX7, Cond.fieldLink RX8 22 "AssistRows" "tracks" "LAssistRows$Tracks;", Cond.classLink RX8 26 RX2, Cond.instantiable RX2 3, Cond.initialized RX2, Cond.fieldLink RX8 29 "AssistRows" "lane" "LAssistRows$Lane;", Cond.classLink RX8 33 RX0, Cond.instantiable RX0 3, Cond.initialized RX0, Cond.fieldLink RX8 36 "AssistRows" "driver" "LAssistRows$Driver;", Cond.classLink RX8 40 RX3, Cond.instantiable RX3 4, Cond.initialized RX3, Cond.fieldLink RX8 43 "AssistRows" "limits" "LAssistRows$Limits;"]
def wsX8_init_r2 : List Cond := [Cond.classLink RX8 47 RX1, Cond.instantiable RX1 5, Cond.initialized RX1, Cond.fieldLink RX8 50 "AssistRows" "hands" "LAssistRows$Hands;", Cond.classLink RX8 54 RX6, Cond.instantiable RX6 2, Cond.initialized RX6, Cond.fieldLink RX8 57 "AssistRows" "signs" "LAssistRows$Signs;", Cond.constantDouble RX8 61 (13830554455654793216), Cond.fieldLink RX8 63 "AssistRows" "left" "D", Cond.fieldLink RX8 67 "AssistRows" "leadX" "D", Cond.instanceMethod yX4_init, Cond.code yX4_init cX4_init 1 none, Cond.methodLink RX4 3 objectInit, Cond.arrayClass .double, Cond.fieldLink RX4 9 "AssistRows$Measures" "x" "[D", Cond.fieldLink RX4 15 "AssistRows$Measures" "y" "[D", Cond.fieldLink RX4 18 "AssistRows$Measures" "speed" "[D", Cond.instanceMethod yX7_init, Cond.code yX7_init cX7_init 1 none, Cond.methodLink RX7 3 objectInit, Cond.arrayClass .boolean, Cond.fieldLink RX7 9 "AssistRows$Tracks" "there" "[Z", Cond.fieldLink RX7 15 "AssistRows$Tracks" "x" "[D"]
def wsX8_init_r3 : List Cond := [Cond.fieldLink RX7 19 "AssistRows$Tracks" "y" "[D", Cond.fieldLink RX7 22 "AssistRows$Tracks" "speed" "[D", Cond.arrayClass .int, Cond.fieldLink RX7 25 "AssistRows$Tracks" "sure" "[I", Cond.fieldLink RX7 29 "AssistRows$Tracks" "coast" "[I", Cond.fieldLink RX7 32 "AssistRows$Tracks" "met" "[Z", Cond.fieldLink RX7 35 "AssistRows$Tracks" "metSpeed" "[D", Cond.classLink RX7 38 RX5, Cond.instantiable RX5 7, Cond.initialized RX5, Cond.fieldLink RX7 41 "AssistRows$Tracks" "pairing" "LAssistRows$Pairing;", Cond.instanceMethod yX5_init, Cond.code yX5_init cX5_init 1 none, Cond.methodLink RX5 3 objectInit, Cond.fieldLink RX5 9 "AssistRows$Pairing" "best" "[I", Cond.fieldLink RX5 15 "AssistRows$Pairing" "tried" "[I", Cond.fieldLink RX5 18 "AssistRows$Pairing" "costs" "[I", Cond.fieldLink RX5 21 "AssistRows$Pairing" "taken" "[Z", Cond.instanceMethod yX2_init, Cond.code yX2_init cX2_init 1 none, Cond.methodLink RX2 1 objectInit, Cond.instanceMethod yX0_init, Cond.code yX0_init cX0_init 1 none, Cond.methodLink RX0 1 objectInit]
def wsX8_init_r4 : List Cond := [Cond.instanceMethod yX3_init, Cond.code yX3_init cX3_init 1 none, Cond.methodLink RX3 1 objectInit, Cond.fieldLink RX3 7 "AssistRows$Limits" "speed" "D", Cond.constantDouble RX3 13 (4609434218613702656), Cond.fieldLink RX3 15 "AssistRows$Limits" "gap" "D", Cond.constantDouble RX3 18 (4621256167635550208), Cond.fieldLink RX3 20 "AssistRows$Limits" "braking" "D", Cond.constantDouble RX3 23 (4611686018427387904), Cond.fieldLink RX3 25 "AssistRows$Limits" "pull" "D", Cond.instanceMethod yX1_init, Cond.code yX1_init cX1_init 1 none, Cond.methodLink RX1 1 objectInit, Cond.fieldLink RX1 7 "AssistRows$Hands" "on" "Z", Cond.instanceMethod yX6_init, Cond.code yX6_init cX6_init 1 none, Cond.methodLink RX6 3 objectInit, Cond.fieldLink RX6 9 "AssistRows$Signs" "counts" "[I"]
def wsX8_init : List Cond := .code yX8_init cX8_init 1 none :: ((wsX8_init_r1 ++ (wsX8_init_r2 ++ (wsX8_init_r3 ++ wsX8_init_r4))) ++ wsX40 ++ wsX80 ++ wsX70 ++ wsX20 ++ wsX00 ++ wsX30 ++ wsX10 ++ wsX60 ++ wsX50)
def wsX8_isTime : List Cond := .code yX8_isTime cX8_isTime 3 (some .boolean) :: ([.fieldLink RX8 109 "AssistRows" "now" "D", .constantDouble RX8 214 (4681608360884174848), .methodLink RX8 72 yX8_within, .static yX8_within, .initialized RX8, .code yX8_within cX8_within 6 (some .boolean)] ++ wsX80)
def wsX8_object_r1 : List Cond := [Cond.constantDouble RX8 70 (4641240890982006784), Cond.constantDouble RX8 76 (13849694754071117824), Cond.constantDouble RX8 78 (4626322717216342016), Cond.constantDouble RX8 80 (13845191154443747328), Cond.constantDouble RX8 82 (4634626229029306368), Cond.fieldLink RX8 10 "AssistRows" "sensor0" "LAssistRows$Measures;", Cond.fieldLink RX8 16 "AssistRows" "sensor1" "LAssistRows$Measures;", Cond.methodLink RX8 72 yX8_within, Cond.static yX8_within, Cond.initialized RX8, Cond.code yX8_within cX8_within 6 (some .boolean), Cond.methodLink RX8 84 yX8_isTime, Cond.instanceMethod yX8_isTime, Cond.selects RX8 yX8_isTime yX8_isTime, Cond.code yX8_isTime cX8_isTime 3 (some .boolean), Cond.fieldLink RX8 109 "AssistRows" "now" "D", Cond.constantDouble RX8 214 (4681608360884174848), Cond.methodLink RX8 88 yX4_add, Cond.instanceMethod yX4_add, Cond.selects RX4 yX4_add yX4_add, Cond.initialized RX4, Cond.code yX4_add cX4_add 7 (some .int), Cond.fieldLink RX4 21 "AssistRows$Measures" "count" "I", Cond.fieldLink RX4 9 "AssistRows$Measures" "x" "[D"]
def wsX8_object_r2 : List Cond := [Cond.fieldLink RX4 15 "AssistRows$Measures" "y" "[D", Cond.fieldLink RX4 18 "AssistRows$Measures" "speed" "[D"]
def wsX8_object : List Cond := .code yX8_object cX8_object 10 (some .int) :: ((wsX8_object_r1 ++ wsX8_object_r2) ++ wsX80 ++ wsX40)
def wsX8_lane : List Cond := .code yX8_lane cX8_lane 7 (some .int) :: ([.constantDouble RX8 92 (13840687554816376832), .constantDouble RX8 94 (4617315517961601024), .constantDouble RX8 61 (13830554455654793216), .constantDouble RX8 96 (13800290266158863483), .constantDouble RX8 98 (4576918229304087675), .fieldLink RX8 29 "AssistRows" "lane" "LAssistRows$Lane;", .fieldLink RX8 100 "AssistRows$Lane" "offset" "D", .fieldLink RX8 103 "AssistRows$Lane" "slope" "D", .fieldLink RX8 106 "AssistRows$Lane" "curve" "D", .methodLink RX8 72 yX8_within, .static yX8_within, .initialized RX8, .code yX8_within cX8_within 6 (some .boolean)] ++ wsX80 ++ wsX20)
def wsX8_joinMeasures_r1 : List Cond := [Cond.fieldLink RX8 22 "AssistRows" "tracks" "LAssistRows$Tracks;", Cond.fieldLink RX8 10 "AssistRows" "sensor0" "LAssistRows$Measures;", Cond.fieldLink RX8 16 "AssistRows" "sensor1" "LAssistRows$Measures;", Cond.fieldLink RX8 223 "AssistRows$Measures" "count" "I", Cond.fieldLink RX8 226 "AssistRows$Tracks" "differ" "Z", Cond.fieldLink RX8 230 "AssistRows" "differing" "I", Cond.methodLink RX8 216 yX7_forgetMeetings, Cond.instanceMethod yX7_forgetMeetings, Cond.selects RX7 yX7_forgetMeetings yX7_forgetMeetings, Cond.initialized RX7, Cond.code yX7_forgetMeetings cX7_forgetMeetings 2 none, Cond.fieldLink RX7 45 "AssistRows$Tracks" "differ" "Z", Cond.fieldLink RX7 32 "AssistRows$Tracks" "met" "[Z", Cond.methodLink RX8 219 yX7_meet, Cond.instanceMethod yX7_meet, Cond.selects RX7 yX7_meet yX7_meet, Cond.code yX7_meet cX7_meet 4 none, Cond.fieldLink RX7 41 "AssistRows$Tracks" "pairing" "LAssistRows$Pairing;", Cond.fieldLink RX7 53 "AssistRows$Measures" "count" "I", Cond.fieldLink RX7 59 "AssistRows$Pairing" "best" "[I", Cond.fieldLink RX7 66 "AssistRows$Measures" "x" "[D", Cond.fieldLink RX7 67 "AssistRows$Measures" "y" "[D", Cond.fieldLink RX7 68 "AssistRows$Measures" "speed" "[D", Cond.methodLink RX7 49 yX5_solve]
def wsX8_joinMeasures_r2 : List Cond := [Cond.instanceMethod yX5_solve, Cond.selects RX5 yX5_solve yX5_solve, Cond.initialized RX5, Cond.code yX5_solve cX5_solve 5 none, Cond.fieldLink RX5 25 "AssistRows$Measures" "count" "I", Cond.fieldLink RX5 31 "AssistRows$Pairing" "count" "I", Cond.fieldLink RX5 32 "AssistRows$Pairing" "bestJoined" "I", Cond.fieldLink RX5 35 "AssistRows$Pairing" "bestSum" "I", Cond.fieldLink RX5 18 "AssistRows$Pairing" "costs" "[I", Cond.fieldLink RX5 38 "AssistRows$Measures" "x" "[D", Cond.fieldLink RX5 42 "AssistRows$Measures" "y" "[D", Cond.methodLink RX5 45 yX7_cost, Cond.instanceMethod yX7_cost, Cond.selects RX7 yX7_cost yX7_cost, Cond.code yX7_cost cX7_cost 10 (some .int), Cond.fieldLink RX7 15 "AssistRows$Tracks" "x" "[D", Cond.fieldLink RX7 19 "AssistRows$Tracks" "y" "[D", Cond.constantDouble RX7 81 (4617315517961601024), Cond.constantDouble RX7 83 (4611686018427387904), Cond.constantDouble RX7 85 (4636737291354636288), Cond.methodLink RX7 62 yX7_isThere, Cond.instanceMethod yX7_isThere, Cond.selects RX7 yX7_isThere yX7_isThere, Cond.code yX7_isThere cX7_isThere 2 (some .boolean)]
def wsX8_joinMeasures_r3 : List Cond := [Cond.fieldLink RX7 9 "AssistRows$Tracks" "there" "[Z", Cond.static yX8_magnitude, Cond.initialized RX8, Cond.code yX8_magnitude cX8_magnitude 2 (some .double), Cond.methodLink RX5 51 yX5_search, Cond.static yX5_search, Cond.code yX5_search cX5_search 7 none, Cond.fieldLink RX5 21 "AssistRows$Pairing" "taken" "[Z", Cond.fieldLink RX5 15 "AssistRows$Pairing" "tried" "[I", Cond.methodLink RX5 55 yX5_keep, Cond.instanceMethod yX5_keep, Cond.selects RX5 yX5_keep yX5_keep, Cond.code yX5_keep cX5_keep 4 none, Cond.fieldLink RX5 9 "AssistRows$Pairing" "best" "[I", Cond.methodLink RX7 69 yX7_join, Cond.instanceMethod yX7_join, Cond.selects RX7 yX7_join yX7_join, Cond.code yX7_join cX7_join 8 none, Cond.fieldLink RX7 35 "AssistRows$Tracks" "metSpeed" "[D", Cond.constantDouble RX7 87 (4602678819172646912), Cond.fieldLink RX7 22 "AssistRows$Tracks" "speed" "[D", Cond.constantDouble RX7 89 (4598175219545276416), Cond.fieldLink RX7 25 "AssistRows$Tracks" "sure" "[I", Cond.methodLink RX7 91 yX7_meeting]
def wsX8_joinMeasures_r4 : List Cond := [Cond.instanceMethod yX7_meeting, Cond.selects RX7 yX7_meeting yX7_meeting, Cond.code yX7_meeting cX7_meeting 4 none, Cond.fieldLink RX7 29 "AssistRows$Tracks" "coast" "[I", Cond.methodLink RX7 73 yX7_make, Cond.instanceMethod yX7_make, Cond.selects RX7 yX7_make yX7_make, Cond.code yX7_make cX7_make 8 none]
def wsX8_joinMeasures : List Cond := .code yX8_joinMeasures cX8_joinMeasures 1 none :: ((wsX8_joinMeasures_r1 ++ (wsX8_joinMeasures_r2 ++ (wsX8_joinMeasures_r3 ++ wsX8_joinMeasures_r4))) ++ wsX80 ++ wsX40 ++ wsX70 ++ wsX50)
def wsX8_dueStage : List Cond := .code yX8_dueStage cX8_dueStage 1 (some .int) :: ([.fieldLink RX8 63 "AssistRows" "left" "D", .fieldLink RX8 36 "AssistRows" "driver" "LAssistRows$Driver;", .constantDouble RX8 233 (4599075939470750515), .constantDouble RX8 235 (4605380978949069210), .constantDouble RX8 237 (4609884578576439706), .constantDouble RX8 239 (4613037098315599053), .methodLink RX8 175 yX0_steers, .instanceMethod yX0_steers, .selects RX0 yX0_steers yX0_steers, .initialized RX0, .code yX0_steers cX0_steers 3 (some .boolean), .fieldLink RX0 24 "AssistRows$Driver" "steer" "D", .static yX8_magnitude, .initialized RX8, .code yX8_magnitude cX8_magnitude 2 (some .double)] ++ wsX80 ++ wsX00)
def wsX8_nextStage : List Cond := .code yX8_nextStage cX8_nextStage 2 (some .int) :: ([])
def wsX8_chosenMode : List Cond := .code yX8_chosenMode cX8_chosenMode 2 (some .int) :: ([.fieldLink RX8 230 "AssistRows" "differing" "I", .fieldLink RX8 50 "AssistRows" "hands" "LAssistRows$Hands;", .fieldLink RX8 241 "AssistRows$Hands" "stopping" "Z", .fieldLink RX8 109 "AssistRows" "now" "D", .constantDouble RX8 247 (4624633867356078080), .fieldLink RX8 249 "AssistRows$Hands" "asked" "Z", .fieldLink RX8 141 "AssistRows" "stage" "I", .fieldLink RX8 36 "AssistRows" "driver" "LAssistRows$Driver;", .fieldLink RX8 252 "AssistRows$Driver" "pedal" "D", .fieldLink RX8 255 "AssistRows$Driver" "brake" "D", .methodLink RX8 244 yX1_off, .instanceMethod yX1_off, .selects RX1 yX1_off yX1_off, .initialized RX1, .code yX1_off cX1_off 3 (some .double), .fieldLink RX1 7 "AssistRows$Hands" "on" "Z", .fieldLink RX1 13 "AssistRows$Hands" "changedAt" "D"] ++ wsX80 ++ wsX10 ++ wsX00)
def wsX8_keptPull_r1 : List Cond := [Cond.fieldLink RX8 43 "AssistRows" "limits" "LAssistRows$Limits;", Cond.fieldLink RX8 258 "AssistRows$Limits" "speed" "D", Cond.fieldLink RX8 116 "AssistRows" "speed" "D", Cond.constantDouble RX8 259 (4602678819172646912), Cond.fieldLink RX8 22 "AssistRows" "tracks" "LAssistRows$Tracks;", Cond.fieldLink RX8 137 "AssistRows$Tracks" "x" "[D", Cond.constantDouble RX8 261 (4613937818241073152), Cond.fieldLink RX8 263 "AssistRows$Limits" "gap" "D", Cond.constantDouble RX8 266 (4596373779694328218), Cond.fieldLink RX8 268 "AssistRows$Tracks" "speed" "[D", Cond.constantDouble RX8 270 (4603579539098121011), Cond.fieldLink RX8 160 "AssistRows" "mode" "I", Cond.constantDouble RX8 275 (13838435755002691584), Cond.constantDouble RX8 277 (4611686018427387904), Cond.methodLink RX8 129 yX7_isThere, Cond.instanceMethod yX7_isThere, Cond.selects RX7 yX7_isThere yX7_isThere, Cond.initialized RX7, Cond.code yX7_isThere cX7_isThere 2 (some .boolean), Cond.fieldLink RX7 9 "AssistRows$Tracks" "there" "[Z", Cond.methodLink RX8 272 yX8_lesser, Cond.static yX8_lesser, Cond.initialized RX8, Cond.code yX8_lesser cX8_lesser 4 (some .double)]
def wsX8_keptPull_r2 : List Cond := [Cond.methodLink RX8 279 yX8_between, Cond.static yX8_between, Cond.code yX8_between cX8_between 6 (some .double), Cond.methodLink RX8 286 yX8_greater, Cond.static yX8_greater, Cond.code yX8_greater cX8_greater 4 (some .double)]
def wsX8_keptPull : List Cond := .code yX8_keptPull cX8_keptPull 6 (some .double) :: ((wsX8_keptPull_r1 ++ wsX8_keptPull_r2) ++ wsX80 ++ wsX30 ++ wsX70)
def wsX8_limitedPull_r1 : List Cond := [Cond.fieldLink RX8 36 "AssistRows" "driver" "LAssistRows$Driver;", Cond.fieldLink RX8 252 "AssistRows$Driver" "pedal" "D", Cond.constantDouble RX8 261 (4613937818241073152), Cond.fieldLink RX8 50 "AssistRows" "hands" "LAssistRows$Hands;", Cond.fieldLink RX8 241 "AssistRows$Hands" "stopping" "Z", Cond.fieldLink RX8 116 "AssistRows" "speed" "D", Cond.constantDouble RX8 289 (13835058055282163712), Cond.fieldLink RX8 255 "AssistRows$Driver" "brake" "D", Cond.constantDouble RX8 291 (13844628204490326016), Cond.fieldLink RX8 141 "AssistRows" "stage" "I", Cond.constantDouble RX8 293 (13839561654909534208), Cond.fieldLink RX8 43 "AssistRows" "limits" "LAssistRows$Limits;", Cond.fieldLink RX8 295 "AssistRows$Limits" "braking" "D", Cond.fieldLink RX8 298 "AssistRows$Limits" "pull" "D", Cond.methodLink RX8 283 yX8_keptPull, Cond.instanceMethod yX8_keptPull, Cond.selects RX8 yX8_keptPull yX8_keptPull, Cond.initialized RX8, Cond.code yX8_keptPull cX8_keptPull 6 (some .double), Cond.fieldLink RX8 258 "AssistRows$Limits" "speed" "D", Cond.constantDouble RX8 259 (4602678819172646912), Cond.fieldLink RX8 22 "AssistRows" "tracks" "LAssistRows$Tracks;", Cond.fieldLink RX8 137 "AssistRows$Tracks" "x" "[D", Cond.fieldLink RX8 263 "AssistRows$Limits" "gap" "D"]
def wsX8_limitedPull_r2 : List Cond := [Cond.constantDouble RX8 266 (4596373779694328218), Cond.fieldLink RX8 268 "AssistRows$Tracks" "speed" "[D", Cond.constantDouble RX8 270 (4603579539098121011), Cond.fieldLink RX8 160 "AssistRows" "mode" "I", Cond.constantDouble RX8 275 (13838435755002691584), Cond.constantDouble RX8 277 (4611686018427387904), Cond.methodLink RX8 129 yX7_isThere, Cond.instanceMethod yX7_isThere, Cond.selects RX7 yX7_isThere yX7_isThere, Cond.initialized RX7, Cond.code yX7_isThere cX7_isThere 2 (some .boolean), Cond.fieldLink RX7 9 "AssistRows$Tracks" "there" "[Z", Cond.methodLink RX8 272 yX8_lesser, Cond.static yX8_lesser, Cond.code yX8_lesser cX8_lesser 4 (some .double), Cond.methodLink RX8 279 yX8_between, Cond.static yX8_between, Cond.code yX8_between cX8_between 6 (some .double), Cond.methodLink RX8 286 yX8_greater, Cond.static yX8_greater, Cond.code yX8_greater cX8_greater 4 (some .double)]
def wsX8_limitedPull : List Cond := .code yX8_limitedPull cX8_limitedPull 4 (some .double) :: ((wsX8_limitedPull_r1 ++ wsX8_limitedPull_r2) ++ wsX80 ++ wsX00 ++ wsX10 ++ wsX30 ++ wsX70)
def wsX8_turned : List Cond := .code yX8_turned cX8_turned 4 (some .double) :: ([.constantDouble RX8 173 (4587366580439587226), .methodLink RX8 299 yX8_magnitude, .static yX8_magnitude, .initialized RX8, .code yX8_magnitude cX8_magnitude 2 (some .double)])
def wsX8_step_r1 : List Cond := [Cond.constantDouble RX8 82 (4634626229029306368), Cond.fieldLink RX8 22 "AssistRows" "tracks" "LAssistRows$Tracks;", Cond.fieldLink RX8 109 "AssistRows" "now" "D", Cond.fieldLink RX8 116 "AssistRows" "speed" "D", Cond.fieldLink RX8 29 "AssistRows" "lane" "LAssistRows$Lane;", Cond.fieldLink RX8 63 "AssistRows" "left" "D", Cond.fieldLink RX8 137 "AssistRows$Tracks" "x" "[D", Cond.constantDouble RX8 61 (13830554455654793216), Cond.fieldLink RX8 67 "AssistRows" "leadX" "D", Cond.fieldLink RX8 141 "AssistRows" "stage" "I", Cond.fieldLink RX8 50 "AssistRows" "hands" "LAssistRows$Hands;", Cond.fieldLink RX8 160 "AssistRows" "mode" "I", Cond.fieldLink RX8 167 "AssistRows" "pull" "D", Cond.fieldLink RX8 170 "AssistRows" "turn" "D", Cond.fieldLink RX8 36 "AssistRows" "driver" "LAssistRows$Driver;", Cond.constantDouble RX8 173 (4587366580439587226), Cond.methodLink RX8 72 yX8_within, Cond.static yX8_within, Cond.initialized RX8, Cond.code yX8_within cX8_within 6 (some .boolean), Cond.methodLink RX8 84 yX8_isTime, Cond.instanceMethod yX8_isTime, Cond.selects RX8 yX8_isTime yX8_isTime, Cond.code yX8_isTime cX8_isTime 3 (some .boolean)]
def wsX8_step_r2 : List Cond := [Cond.constantDouble RX8 214 (4681608360884174848), Cond.methodLink RX8 112 yX7_move, Cond.instanceMethod yX7_move, Cond.selects RX7 yX7_move yX7_move, Cond.initialized RX7, Cond.code yX7_move cX7_move 6 none, Cond.fieldLink RX7 9 "AssistRows$Tracks" "there" "[Z", Cond.fieldLink RX7 15 "AssistRows$Tracks" "x" "[D", Cond.fieldLink RX7 22 "AssistRows$Tracks" "speed" "[D", Cond.methodLink RX8 119 yX8_joinMeasures, Cond.instanceMethod yX8_joinMeasures, Cond.selects RX8 yX8_joinMeasures yX8_joinMeasures, Cond.code yX8_joinMeasures cX8_joinMeasures 1 none, Cond.fieldLink RX8 10 "AssistRows" "sensor0" "LAssistRows$Measures;", Cond.fieldLink RX8 16 "AssistRows" "sensor1" "LAssistRows$Measures;", Cond.fieldLink RX8 223 "AssistRows$Measures" "count" "I", Cond.fieldLink RX8 226 "AssistRows$Tracks" "differ" "Z", Cond.fieldLink RX8 230 "AssistRows" "differing" "I", Cond.methodLink RX8 216 yX7_forgetMeetings, Cond.instanceMethod yX7_forgetMeetings, Cond.selects RX7 yX7_forgetMeetings yX7_forgetMeetings, Cond.code yX7_forgetMeetings cX7_forgetMeetings 2 none, Cond.fieldLink RX7 45 "AssistRows$Tracks" "differ" "Z", Cond.fieldLink RX7 32 "AssistRows$Tracks" "met" "[Z"]
def wsX8_step_r3 : List Cond := [Cond.methodLink RX8 219 yX7_meet, Cond.instanceMethod yX7_meet, Cond.selects RX7 yX7_meet yX7_meet, Cond.code yX7_meet cX7_meet 4 none, Cond.fieldLink RX7 41 "AssistRows$Tracks" "pairing" "LAssistRows$Pairing;", Cond.fieldLink RX7 53 "AssistRows$Measures" "count" "I", Cond.fieldLink RX7 59 "AssistRows$Pairing" "best" "[I", Cond.fieldLink RX7 66 "AssistRows$Measures" "x" "[D", Cond.fieldLink RX7 67 "AssistRows$Measures" "y" "[D", Cond.fieldLink RX7 68 "AssistRows$Measures" "speed" "[D", Cond.methodLink RX7 49 yX5_solve, Cond.instanceMethod yX5_solve, Cond.selects RX5 yX5_solve yX5_solve, Cond.initialized RX5, Cond.code yX5_solve cX5_solve 5 none, Cond.fieldLink RX5 25 "AssistRows$Measures" "count" "I", Cond.fieldLink RX5 31 "AssistRows$Pairing" "count" "I", Cond.fieldLink RX5 32 "AssistRows$Pairing" "bestJoined" "I", Cond.fieldLink RX5 35 "AssistRows$Pairing" "bestSum" "I", Cond.fieldLink RX5 18 "AssistRows$Pairing" "costs" "[I", Cond.fieldLink RX5 38 "AssistRows$Measures" "x" "[D", Cond.fieldLink RX5 42 "AssistRows$Measures" "y" "[D", Cond.methodLink RX5 45 yX7_cost, Cond.instanceMethod yX7_cost]
def wsX8_step_r4 : List Cond := [Cond.selects RX7 yX7_cost yX7_cost, Cond.code yX7_cost cX7_cost 10 (some .int), Cond.fieldLink RX7 19 "AssistRows$Tracks" "y" "[D", Cond.constantDouble RX7 81 (4617315517961601024), Cond.constantDouble RX7 83 (4611686018427387904), Cond.constantDouble RX7 85 (4636737291354636288), Cond.methodLink RX7 62 yX7_isThere, Cond.instanceMethod yX7_isThere, Cond.selects RX7 yX7_isThere yX7_isThere, Cond.code yX7_isThere cX7_isThere 2 (some .boolean), Cond.static yX8_magnitude, Cond.code yX8_magnitude cX8_magnitude 2 (some .double), Cond.methodLink RX5 51 yX5_search, Cond.static yX5_search, Cond.code yX5_search cX5_search 7 none, Cond.fieldLink RX5 21 "AssistRows$Pairing" "taken" "[Z", Cond.fieldLink RX5 15 "AssistRows$Pairing" "tried" "[I", Cond.methodLink RX5 55 yX5_keep, Cond.instanceMethod yX5_keep, Cond.selects RX5 yX5_keep yX5_keep, Cond.code yX5_keep cX5_keep 4 none, Cond.fieldLink RX5 9 "AssistRows$Pairing" "best" "[I", Cond.methodLink RX7 69 yX7_join, Cond.instanceMethod yX7_join]
def wsX8_step_r5 : List Cond := [Cond.selects RX7 yX7_join yX7_join, Cond.code yX7_join cX7_join 8 none, Cond.fieldLink RX7 35 "AssistRows$Tracks" "metSpeed" "[D", Cond.constantDouble RX7 87 (4602678819172646912), Cond.constantDouble RX7 89 (4598175219545276416), Cond.fieldLink RX7 25 "AssistRows$Tracks" "sure" "[I", Cond.methodLink RX7 91 yX7_meeting, Cond.instanceMethod yX7_meeting, Cond.selects RX7 yX7_meeting yX7_meeting, Cond.code yX7_meeting cX7_meeting 4 none, Cond.fieldLink RX7 29 "AssistRows$Tracks" "coast" "[I", Cond.methodLink RX7 73 yX7_make, Cond.instanceMethod yX7_make, Cond.selects RX7 yX7_make yX7_make, Cond.code yX7_make cX7_make 8 none, Cond.methodLink RX8 122 yX7_age, Cond.instanceMethod yX7_age, Cond.selects RX7 yX7_age yX7_age, Cond.code yX7_age cX7_age 2 none, Cond.constantDouble RX7 95 (4643000109586448384), Cond.methodLink RX8 125 yX7_leadOn, Cond.instanceMethod yX7_leadOn, Cond.selects RX7 yX7_leadOn yX7_leadOn, Cond.code yX7_leadOn cX7_leadOn 7 (some .int)]
def wsX8_step_r6 : List Cond := [Cond.constantDouble RX7 102 (4610560118520545280), Cond.methodLink RX7 97 yX2_middle, Cond.instanceMethod yX2_middle, Cond.selects RX2 yX2_middle yX2_middle, Cond.initialized RX2, Cond.code yX2_middle cX2_middle 3 (some .double), Cond.fieldLink RX2 7 "AssistRows$Lane" "offset" "D", Cond.fieldLink RX2 13 "AssistRows$Lane" "slope" "D", Cond.fieldLink RX2 16 "AssistRows$Lane" "curve" "D", Cond.methodLink RX8 129 yX7_isThere, Cond.methodLink RX8 133 yX7_secondsTo, Cond.instanceMethod yX7_secondsTo, Cond.selects RX7 yX7_secondsTo yX7_secondsTo, Cond.code yX7_secondsTo cX7_secondsTo 6 (some .double), Cond.constantDouble RX7 104 (13830554455654793216), Cond.methodLink RX8 145 yX8_dueStage, Cond.instanceMethod yX8_dueStage, Cond.selects RX8 yX8_dueStage yX8_dueStage, Cond.code yX8_dueStage cX8_dueStage 1 (some .int), Cond.constantDouble RX8 233 (4599075939470750515), Cond.constantDouble RX8 235 (4605380978949069210), Cond.constantDouble RX8 237 (4609884578576439706), Cond.constantDouble RX8 239 (4613037098315599053), Cond.methodLink RX8 175 yX0_steers]
def wsX8_step_r7 : List Cond := [Cond.instanceMethod yX0_steers, Cond.selects RX0 yX0_steers yX0_steers, Cond.initialized RX0, Cond.code yX0_steers cX0_steers 3 (some .boolean), Cond.fieldLink RX0 24 "AssistRows$Driver" "steer" "D", Cond.methodLink RX8 149 yX8_nextStage, Cond.static yX8_nextStage, Cond.code yX8_nextStage cX8_nextStage 2 (some .int), Cond.methodLink RX8 153 yX1_pass, Cond.instanceMethod yX1_pass, Cond.selects RX1 yX1_pass yX1_pass, Cond.initialized RX1, Cond.code yX1_pass cX1_pass 5 none, Cond.fieldLink RX1 7 "AssistRows$Hands" "on" "Z", Cond.fieldLink RX1 17 "AssistRows$Hands" "asked" "Z", Cond.fieldLink RX1 20 "AssistRows$Hands" "stopping" "Z", Cond.constantDouble RX1 30 (4630826316843712512), Cond.fieldLink RX1 23 "AssistRows$Hands" "askedAt" "D", Cond.constantDouble RX1 32 (4621819117588971520), Cond.methodLink RX1 26 yX1_off, Cond.instanceMethod yX1_off, Cond.selects RX1 yX1_off yX1_off, Cond.code yX1_off cX1_off 3 (some .double), Cond.fieldLink RX1 13 "AssistRows$Hands" "changedAt" "D"]
def wsX8_step_r8 : List Cond := [Cond.methodLink RX8 156 yX8_chosenMode, Cond.instanceMethod yX8_chosenMode, Cond.selects RX8 yX8_chosenMode yX8_chosenMode, Cond.code yX8_chosenMode cX8_chosenMode 2 (some .int), Cond.fieldLink RX8 241 "AssistRows$Hands" "stopping" "Z", Cond.constantDouble RX8 247 (4624633867356078080), Cond.fieldLink RX8 249 "AssistRows$Hands" "asked" "Z", Cond.fieldLink RX8 252 "AssistRows$Driver" "pedal" "D", Cond.fieldLink RX8 255 "AssistRows$Driver" "brake" "D", Cond.methodLink RX8 244 yX1_off, Cond.methodLink RX8 163 yX8_limitedPull, Cond.instanceMethod yX8_limitedPull, Cond.selects RX8 yX8_limitedPull yX8_limitedPull, Cond.code yX8_limitedPull cX8_limitedPull 4 (some .double), Cond.constantDouble RX8 261 (4613937818241073152), Cond.constantDouble RX8 289 (13835058055282163712), Cond.constantDouble RX8 291 (13844628204490326016), Cond.constantDouble RX8 293 (13839561654909534208), Cond.fieldLink RX8 43 "AssistRows" "limits" "LAssistRows$Limits;", Cond.fieldLink RX8 295 "AssistRows$Limits" "braking" "D", Cond.fieldLink RX8 298 "AssistRows$Limits" "pull" "D", Cond.methodLink RX8 283 yX8_keptPull, Cond.instanceMethod yX8_keptPull, Cond.selects RX8 yX8_keptPull yX8_keptPull]
def wsX8_step_r9 : List Cond := [Cond.code yX8_keptPull cX8_keptPull 6 (some .double), Cond.fieldLink RX8 258 "AssistRows$Limits" "speed" "D", Cond.constantDouble RX8 259 (4602678819172646912), Cond.fieldLink RX8 263 "AssistRows$Limits" "gap" "D", Cond.constantDouble RX8 266 (4596373779694328218), Cond.fieldLink RX8 268 "AssistRows$Tracks" "speed" "[D", Cond.constantDouble RX8 270 (4603579539098121011), Cond.constantDouble RX8 275 (13838435755002691584), Cond.constantDouble RX8 277 (4611686018427387904), Cond.methodLink RX8 272 yX8_lesser, Cond.static yX8_lesser, Cond.code yX8_lesser cX8_lesser 4 (some .double), Cond.methodLink RX8 279 yX8_between, Cond.static yX8_between, Cond.code yX8_between cX8_between 6 (some .double), Cond.methodLink RX8 286 yX8_greater, Cond.static yX8_greater, Cond.code yX8_greater cX8_greater 4 (some .double), Cond.methodLink RX8 178 yX2_straightening, Cond.instanceMethod yX2_straightening, Cond.selects RX2 yX2_straightening yX2_straightening, Cond.code yX2_straightening cX2_straightening 1 (some .double), Cond.constantDouble RX2 19 (4591870180066957722), Cond.constantDouble RX2 21 (4602678819172646912)]
def wsX8_step_r10 : List Cond := [Cond.constantDouble RX2 23 (13822447976325526323), Cond.constantDouble RX2 25 (4599075939470750515), Cond.methodLink RX8 182 yX8_turned, Cond.static yX8_turned, Cond.code yX8_turned cX8_turned 4 (some .double), Cond.methodLink RX8 299 yX8_magnitude]
def wsX8_step : List Cond := .code yX8_step cX8_step 7 (some .int) :: ((wsX8_step_r1 ++ (wsX8_step_r2 ++ (wsX8_step_r3 ++ (wsX8_step_r4 ++ (wsX8_step_r5 ++ (wsX8_step_r6 ++ (wsX8_step_r7 ++ (wsX8_step_r8 ++ (wsX8_step_r9 ++ wsX8_step_r10))))))))) ++ wsX80 ++ wsX70 ++ wsX40 ++ wsX50 ++ wsX20 ++ wsX00 ++ wsX10 ++ wsX30)
def wsX8_unsignedZero : List Cond := .code yX8_unsignedZero cX8_unsignedZero 2 (some .double) :: ([])
def wsX8_wish : List Cond := .code yX8_wish cX8_wish 2 (some .double) :: ([.fieldLink RX8 167 "AssistRows" "pull" "D", .fieldLink RX8 170 "AssistRows" "turn" "D", .fieldLink RX8 63 "AssistRows" "left" "D", .fieldLink RX8 67 "AssistRows" "leadX" "D", .methodLink RX8 186 yX8_unsignedZero, .static yX8_unsignedZero, .initialized RX8, .code yX8_unsignedZero cX8_unsignedZero 2 (some .double)] ++ wsX80)
def wsX8_stage : List Cond := .code yX8_stage cX8_stage 1 (some .int) :: ([.fieldLink RX8 141 "AssistRows" "stage" "I"] ++ wsX80)
def wsX8_time : List Cond := .code yX8_time cX8_time 2 (some .double) :: ([.fieldLink RX8 22 "AssistRows" "tracks" "LAssistRows$Tracks;", .fieldLink RX8 116 "AssistRows" "speed" "D", .methodLink RX8 133 yX7_secondsTo, .instanceMethod yX7_secondsTo, .selects RX7 yX7_secondsTo yX7_secondsTo, .initialized RX7, .code yX7_secondsTo cX7_secondsTo 6 (some .double), .constantDouble RX7 104 (13830554455654793216), .fieldLink RX7 22 "AssistRows$Tracks" "speed" "[D", .fieldLink RX7 15 "AssistRows$Tracks" "x" "[D", .methodLink RX7 62 yX7_isThere, .instanceMethod yX7_isThere, .selects RX7 yX7_isThere yX7_isThere, .code yX7_isThere cX7_isThere 2 (some .boolean), .fieldLink RX7 9 "AssistRows$Tracks" "there" "[Z", .methodLink RX8 186 yX8_unsignedZero, .static yX8_unsignedZero, .initialized RX8, .code yX8_unsignedZero cX8_unsignedZero 2 (some .double)] ++ wsX80 ++ wsX70)
def wsX8_whole : List Cond := .code yX8_whole cX8_whole 5 (some .long) :: ([.classLink RX8 190 "java/lang/ArithmeticException", .initialized "java/lang/ArithmeticException"] ++ (vx_atS RX8 194 "java/lang/ArithmeticException" ["java/lang/RuntimeException", "java/lang/Exception"]).filter goodWord)
def wsX8_driver : List Cond := .code yX8_driver cX8_driver 4 (some .int) :: ([.fieldLink RX8 36 "AssistRows" "driver" "LAssistRows$Driver;", .methodLink RX8 197 yX0_tell, .instanceMethod yX0_tell, .selects RX0 yX0_tell yX0_tell, .initialized RX0, .code yX0_tell cX0_tell 4 (some .boolean), .constantDouble RX0 7 (13830554455654793216), .fieldLink RX0 15 "AssistRows$Driver" "pedal" "D", .fieldLink RX0 21 "AssistRows$Driver" "brake" "D", .fieldLink RX0 24 "AssistRows$Driver" "steer" "D", .static yX8_within, .initialized RX8, .code yX8_within cX8_within 6 (some .boolean)] ++ wsX80 ++ wsX00)
def wsX8_limit : List Cond := .code yX8_limit cX8_limit 4 (some .int) :: ([.fieldLink RX8 43 "AssistRows" "limits" "LAssistRows$Limits;", .methodLink RX8 201 yX3_tell, .instanceMethod yX3_tell, .selects RX3 yX3_tell yX3_tell, .initialized RX3, .code yX3_tell cX3_tell 4 (some .boolean), .fieldLink RX3 7 "AssistRows$Limits" "speed" "D", .fieldLink RX3 15 "AssistRows$Limits" "gap" "D", .fieldLink RX3 20 "AssistRows$Limits" "braking" "D", .fieldLink RX3 25 "AssistRows$Limits" "pull" "D", .methodLink RX3 28 yX3_fits, .static yX3_fits, .code yX3_fits cX3_fits 3 (some .boolean), .constantDouble RX3 32 (4633641066610819072), .constantDouble RX3 40 (4602678819172646912), .constantDouble RX3 42 (4613937818241073152), .constantDouble RX3 18 (4621256167635550208), .static yX8_within, .initialized RX8, .code yX8_within cX8_within 6 (some .boolean)] ++ wsX80 ++ wsX30)
def wsX8_track : List Cond := .code yX8_track cX8_track 3 (some .int) :: ([.fieldLink RX8 22 "AssistRows" "tracks" "LAssistRows$Tracks;", .methodLink RX8 202 yX7_read, .instanceMethod yX7_read, .selects RX7 yX7_read yX7_read, .initialized RX7, .code yX7_read cX7_read 3 (some .int), .fieldLink RX7 25 "AssistRows$Tracks" "sure" "[I", .fieldLink RX7 29 "AssistRows$Tracks" "coast" "[I", .fieldLink RX7 15 "AssistRows$Tracks" "x" "[D", .constantDouble RX7 85 (4636737291354636288), .fieldLink RX7 19 "AssistRows$Tracks" "y" "[D", .fieldLink RX7 22 "AssistRows$Tracks" "speed" "[D", .methodLink RX7 62 yX7_isThere, .instanceMethod yX7_isThere, .selects RX7 yX7_isThere yX7_isThere, .code yX7_isThere cX7_isThere 2 (some .boolean), .fieldLink RX7 9 "AssistRows$Tracks" "there" "[Z"] ++ wsX80 ++ wsX70)
def wsX8_sign : List Cond := .code yX8_sign cX8_sign 3 (some .int) :: ([.fieldLink RX8 57 "AssistRows" "signs" "LAssistRows$Signs;", .methodLink RX8 205 yX6_see, .instanceMethod yX6_see, .selects RX6 yX6_see yX6_see, .initialized RX6, .code yX6_see cX6_see 5 (some .int), .fieldLink RX6 9 "AssistRows$Signs" "counts" "[I", .fieldLink RX6 23 "AssistRows$Signs" "taken" "I", .methodLink RX6 15 yX6_weight, .static yX6_weight, .code yX6_weight cX6_weight 1 (some .int), .methodLink RX6 19 yX6_take, .instanceMethod yX6_take, .selects RX6 yX6_take yX6_take, .code yX6_take cX6_take 3 none] ++ wsX80 ++ wsX60)
def wsX8_hands : List Cond := .code yX8_hands cX8_hands 4 (some .int) :: ([.fieldLink RX8 50 "AssistRows" "hands" "LAssistRows$Hands;", .methodLink RX8 84 yX8_isTime, .instanceMethod yX8_isTime, .selects RX8 yX8_isTime yX8_isTime, .initialized RX8, .code yX8_isTime cX8_isTime 3 (some .boolean), .fieldLink RX8 109 "AssistRows" "now" "D", .constantDouble RX8 214 (4681608360884174848), .methodLink RX8 72 yX8_within, .static yX8_within, .code yX8_within cX8_within 6 (some .boolean), .methodLink RX8 208 yX1_tell, .instanceMethod yX1_tell, .selects RX1 yX1_tell yX1_tell, .initialized RX1, .code yX1_tell cX1_tell 4 (some .boolean), .fieldLink RX1 7 "AssistRows$Hands" "on" "Z", .fieldLink RX1 13 "AssistRows$Hands" "changedAt" "D"] ++ wsX80 ++ wsX10)
def wsX8_handOver : List Cond := .code yX8_handOver cX8_handOver 3 (some .int) :: ([.fieldLink RX8 50 "AssistRows" "hands" "LAssistRows$Hands;", .methodLink RX8 84 yX8_isTime, .instanceMethod yX8_isTime, .selects RX8 yX8_isTime yX8_isTime, .initialized RX8, .code yX8_isTime cX8_isTime 3 (some .boolean), .fieldLink RX8 109 "AssistRows" "now" "D", .constantDouble RX8 214 (4681608360884174848), .methodLink RX8 72 yX8_within, .static yX8_within, .code yX8_within cX8_within 6 (some .boolean), .methodLink RX8 211 yX1_ask, .instanceMethod yX1_ask, .selects RX1 yX1_ask yX1_ask, .initialized RX1, .code yX1_ask cX1_ask 3 (some .boolean), .fieldLink RX1 17 "AssistRows$Hands" "asked" "Z", .fieldLink RX1 7 "AssistRows$Hands" "on" "Z", .fieldLink RX1 20 "AssistRows$Hands" "stopping" "Z", .fieldLink RX1 23 "AssistRows$Hands" "askedAt" "D"] ++ wsX80 ++ wsX10)
def wsX8_mode : List Cond := .code yX8_mode cX8_mode 1 (some .int) :: ([.fieldLink RX8 160 "AssistRows" "mode" "I"] ++ wsX80)
def wsX9_init_r1 : List Cond := [Cond.methodLink RX9 1 objectInit, Cond.instanceMethod objectInit, Cond.code objectInit ⟨#[0xb1]⟩ 1 none, Cond.arrayClass .boolean, Cond.fieldLink RX9 7 "AssistRowsModel" "isThere" "[Z", Cond.arrayClass .double, Cond.fieldLink RX9 13 "AssistRowsModel" "x" "[D", Cond.fieldLink RX9 17 "AssistRowsModel" "y" "[D", Cond.fieldLink RX9 20 "AssistRowsModel" "v" "[D", Cond.arrayClass .int, Cond.fieldLink RX9 23 "AssistRowsModel" "sure" "[I", Cond.fieldLink RX9 27 "AssistRowsModel" "coast" "[I", Cond.fieldLink RX9 30 "AssistRowsModel" "many" "[I", Cond.fieldLink RX9 33 "AssistRowsModel" "mx" "[D", Cond.fieldLink RX9 36 "AssistRowsModel" "my" "[D", Cond.fieldLink RX9 39 "AssistRowsModel" "mv" "[D", Cond.fieldLink RX9 42 "AssistRowsModel" "taken" "[I", Cond.fieldLink RX9 45 "AssistRowsModel" "way" "[I", Cond.fieldLink RX9 48 "AssistRowsModel" "toldFirst" "[Z", Cond.fieldLink RX9 51 "AssistRowsModel" "toldSecond" "[Z", Cond.fieldLink RX9 54 "AssistRowsModel" "speedFirst" "[D", Cond.fieldLink RX9 57 "AssistRowsModel" "isOn" "Z", Cond.constantDouble RX9 61 (4609434218613702656), Cond.fieldLink RX9 63 "AssistRowsModel" "gap" "D"]
def wsX9_init_r2 : List Cond := [Cond.constantDouble RX9 67 (4621256167635550208), Cond.fieldLink RX9 69 "AssistRowsModel" "braking" "D", Cond.constantDouble RX9 72 (4611686018427387904), Cond.fieldLink RX9 74 "AssistRowsModel" "pull" "D", Cond.fieldLink RX9 77 "AssistRowsModel" "lead" "I", Cond.constantDouble RX9 81 (13830554455654793216), Cond.fieldLink RX9 83 "AssistRowsModel" "left" "D", Cond.fieldLink RX9 86 "AssistRowsModel" "leadX" "D", Cond.fieldLink RX9 89 "AssistRowsModel" "counts" "[I"]
def wsX9_init : List Cond := .code yX9_init cX9_init 1 none :: ((wsX9_init_r1 ++ wsX9_init_r2) ++ wsX90)
def wsX9_thrown : List Cond := .code yX9_thrown cX9_thrown 1 (some .int) :: ([.fieldLink RX9 92 "AssistRowsModel" "fault" "I"] ++ wsX90)
def wsX9_in : List Cond := .code yX9_in cX9_in 6 (some .boolean) :: ([])
def wsX9_size : List Cond := .code yX9_size cX9_size 2 (some .double) :: ([])
def wsX9_between : List Cond := .code yX9_between cX9_between 6 (some .double) :: ([])
def wsX9_object : List Cond := .code yX9_object cX9_object 11 (some .int) :: ([.fieldLink RX9 92 "AssistRowsModel" "fault" "I", .constantDouble RX9 95 (4641240890982006784), .constantDouble RX9 101 (13849694754071117824), .constantDouble RX9 103 (4626322717216342016), .constantDouble RX9 105 (13845191154443747328), .constantDouble RX9 107 (4634626229029306368), .fieldLink RX9 109 "AssistRowsModel" "now" "D", .constantDouble RX9 112 (4681608360884174848), .fieldLink RX9 30 "AssistRowsModel" "many" "[I", .fieldLink RX9 33 "AssistRowsModel" "mx" "[D", .fieldLink RX9 36 "AssistRowsModel" "my" "[D", .fieldLink RX9 39 "AssistRowsModel" "mv" "[D", .methodLink RX9 97 yX9_in, .static yX9_in, .initialized RX9, .code yX9_in cX9_in 6 (some .boolean)] ++ wsX90)
def wsX9_lane : List Cond := .code yX9_lane cX9_lane 7 (some .int) :: ([.fieldLink RX9 92 "AssistRowsModel" "fault" "I", .constantDouble RX9 114 (13840687554816376832), .constantDouble RX9 116 (4617315517961601024), .constantDouble RX9 81 (13830554455654793216), .constantDouble RX9 118 (13800290266158863483), .constantDouble RX9 120 (4576918229304087675), .fieldLink RX9 122 "AssistRowsModel" "offset" "D", .fieldLink RX9 125 "AssistRowsModel" "slope" "D", .fieldLink RX9 128 "AssistRowsModel" "curve" "D", .methodLink RX9 97 yX9_in, .static yX9_in, .initialized RX9, .code yX9_in cX9_in 6 (some .boolean)] ++ wsX90)
def wsX9_driver : List Cond := .code yX9_driver cX9_driver 4 (some .int) :: ([.fieldLink RX9 92 "AssistRowsModel" "fault" "I", .constantDouble RX9 81 (13830554455654793216), .fieldLink RX9 131 "AssistRowsModel" "pedal" "D", .fieldLink RX9 134 "AssistRowsModel" "brake" "D", .fieldLink RX9 137 "AssistRowsModel" "steer" "D", .methodLink RX9 97 yX9_in, .static yX9_in, .initialized RX9, .code yX9_in cX9_in 6 (some .boolean)] ++ wsX90)
def wsX9_limit : List Cond := .code yX9_limit cX9_limit 5 (some .int) :: ([.fieldLink RX9 92 "AssistRowsModel" "fault" "I", .constantDouble RX9 140 (4633641066610819072), .constantDouble RX9 142 (4602678819172646912), .constantDouble RX9 144 (4613937818241073152), .constantDouble RX9 67 (4621256167635550208), .fieldLink RX9 146 "AssistRowsModel" "wished" "D", .fieldLink RX9 63 "AssistRowsModel" "gap" "D", .fieldLink RX9 69 "AssistRowsModel" "braking" "D", .fieldLink RX9 74 "AssistRowsModel" "pull" "D", .methodLink RX9 97 yX9_in, .static yX9_in, .initialized RX9, .code yX9_in cX9_in 6 (some .boolean)] ++ wsX90)
def wsX9_hands : List Cond := .code yX9_hands cX9_hands 4 (some .int) :: ([.fieldLink RX9 92 "AssistRowsModel" "fault" "I", .fieldLink RX9 109 "AssistRowsModel" "now" "D", .constantDouble RX9 112 (4681608360884174848), .fieldLink RX9 57 "AssistRowsModel" "isOn" "Z", .fieldLink RX9 149 "AssistRowsModel" "offAt" "D", .methodLink RX9 97 yX9_in, .static yX9_in, .initialized RX9, .code yX9_in cX9_in 6 (some .boolean)] ++ wsX90)
def wsX9_handOver : List Cond := .code yX9_handOver cX9_handOver 3 (some .int) :: ([.fieldLink RX9 92 "AssistRowsModel" "fault" "I", .fieldLink RX9 109 "AssistRowsModel" "now" "D", .constantDouble RX9 112 (4681608360884174848), .fieldLink RX9 152 "AssistRowsModel" "isAsked" "Z", .fieldLink RX9 57 "AssistRowsModel" "isOn" "Z", .fieldLink RX9 155 "AssistRowsModel" "isStopping" "Z", .fieldLink RX9 158 "AssistRowsModel" "askedAt" "D", .methodLink RX9 97 yX9_in, .static yX9_in, .initialized RX9, .code yX9_in cX9_in 6 (some .boolean)] ++ wsX90)
def wsX9_sign : List Cond := .code yX9_sign cX9_sign 4 (some .int) :: ([.fieldLink RX9 92 "AssistRowsModel" "fault" "I", .fieldLink RX9 89 "AssistRowsModel" "counts" "[I", .fieldLink RX9 161 "AssistRowsModel" "sign" "I"] ++ wsX90)
def wsX9_may : List Cond := .code yX9_may cX9_may 3 (some .boolean) :: ([.fieldLink RX9 7 "AssistRowsModel" "isThere" "[Z", .fieldLink RX9 33 "AssistRowsModel" "mx" "[D", .fieldLink RX9 13 "AssistRowsModel" "x" "[D", .constantDouble RX9 116 (4617315517961601024), .fieldLink RX9 36 "AssistRowsModel" "my" "[D", .fieldLink RX9 17 "AssistRowsModel" "y" "[D", .constantDouble RX9 72 (4611686018427387904), .methodLink RX9 164 yX9_size, .static yX9_size, .initialized RX9, .code yX9_size cX9_size 2 (some .double)] ++ wsX90)
def wsX9_cost : List Cond := .code yX9_cost cX9_cost 3 (some .int) :: ([.constantDouble RX9 168 (4636737291354636288), .fieldLink RX9 33 "AssistRowsModel" "mx" "[D", .fieldLink RX9 13 "AssistRowsModel" "x" "[D", .fieldLink RX9 36 "AssistRowsModel" "my" "[D", .fieldLink RX9 17 "AssistRowsModel" "y" "[D", .methodLink RX9 164 yX9_size, .static yX9_size, .initialized RX9, .code yX9_size cX9_size 2 (some .double)] ++ wsX90)
def wsX9_isWay : List Cond := .code yX9_isWay cX9_isWay 4 (some .boolean) :: ([.fieldLink RX9 30 "AssistRowsModel" "many" "[I", .fieldLink RX9 45 "AssistRowsModel" "way" "[I", .methodLink RX9 170 yX9_may, .instanceMethod yX9_may, .selects RX9 yX9_may yX9_may, .initialized RX9, .code yX9_may cX9_may 3 (some .boolean), .fieldLink RX9 7 "AssistRowsModel" "isThere" "[Z", .fieldLink RX9 33 "AssistRowsModel" "mx" "[D", .fieldLink RX9 13 "AssistRowsModel" "x" "[D", .constantDouble RX9 116 (4617315517961601024), .fieldLink RX9 36 "AssistRowsModel" "my" "[D", .fieldLink RX9 17 "AssistRowsModel" "y" "[D", .constantDouble RX9 72 (4611686018427387904), .methodLink RX9 164 yX9_size, .static yX9_size, .code yX9_size cX9_size 2 (some .double)] ++ wsX90)
def wsX9_findWay_r1 : List Cond := [Cond.fieldLink RX9 30 "AssistRowsModel" "many" "[I", Cond.fieldLink RX9 45 "AssistRowsModel" "way" "[I", Cond.fieldLink RX9 42 "AssistRowsModel" "taken" "[I", Cond.methodLink RX9 174 yX9_isWay, Cond.instanceMethod yX9_isWay, Cond.selects RX9 yX9_isWay yX9_isWay, Cond.initialized RX9, Cond.code yX9_isWay cX9_isWay 4 (some .boolean), Cond.methodLink RX9 170 yX9_may, Cond.instanceMethod yX9_may, Cond.selects RX9 yX9_may yX9_may, Cond.code yX9_may cX9_may 3 (some .boolean), Cond.fieldLink RX9 7 "AssistRowsModel" "isThere" "[Z", Cond.fieldLink RX9 33 "AssistRowsModel" "mx" "[D", Cond.fieldLink RX9 13 "AssistRowsModel" "x" "[D", Cond.constantDouble RX9 116 (4617315517961601024), Cond.fieldLink RX9 36 "AssistRowsModel" "my" "[D", Cond.fieldLink RX9 17 "AssistRowsModel" "y" "[D", Cond.constantDouble RX9 72 (4611686018427387904), Cond.methodLink RX9 164 yX9_size, Cond.static yX9_size, Cond.code yX9_size cX9_size 2 (some .double), Cond.methodLink RX9 178 yX9_cost, Cond.instanceMethod yX9_cost]
def wsX9_findWay_r2 : List Cond := [Cond.selects RX9 yX9_cost yX9_cost, Cond.code yX9_cost cX9_cost 3 (some .int), Cond.constantDouble RX9 168 (4636737291354636288)]
def wsX9_findWay : List Cond := .code yX9_findWay cX9_findWay 11 none :: ((wsX9_findWay_r1 ++ wsX9_findWay_r2) ++ wsX90)
def wsX9_tell : List Cond := .code yX9_tell cX9_tell 5 none :: ([.fieldLink RX9 48 "AssistRowsModel" "toldFirst" "[Z", .fieldLink RX9 54 "AssistRowsModel" "speedFirst" "[D", .fieldLink RX9 51 "AssistRowsModel" "toldSecond" "[Z", .fieldLink RX9 182 "AssistRowsModel" "differs" "Z", .constantDouble RX9 116 (4617315517961601024), .methodLink RX9 164 yX9_size, .static yX9_size, .initialized RX9, .code yX9_size cX9_size 2 (some .double)] ++ wsX90)
def wsX9_begin : List Cond := .code yX9_begin cX9_begin 4 none :: ([.fieldLink RX9 7 "AssistRowsModel" "isThere" "[Z", .fieldLink RX9 13 "AssistRowsModel" "x" "[D", .fieldLink RX9 33 "AssistRowsModel" "mx" "[D", .fieldLink RX9 17 "AssistRowsModel" "y" "[D", .fieldLink RX9 36 "AssistRowsModel" "my" "[D", .fieldLink RX9 20 "AssistRowsModel" "v" "[D", .fieldLink RX9 39 "AssistRowsModel" "mv" "[D", .fieldLink RX9 23 "AssistRowsModel" "sure" "[I", .fieldLink RX9 27 "AssistRowsModel" "coast" "[I", .methodLink RX9 191 yX9_tell, .instanceMethod yX9_tell, .selects RX9 yX9_tell yX9_tell, .initialized RX9, .code yX9_tell cX9_tell 5 none, .fieldLink RX9 48 "AssistRowsModel" "toldFirst" "[Z", .fieldLink RX9 54 "AssistRowsModel" "speedFirst" "[D", .fieldLink RX9 51 "AssistRowsModel" "toldSecond" "[Z", .fieldLink RX9 182 "AssistRowsModel" "differs" "Z", .constantDouble RX9 116 (4617315517961601024), .methodLink RX9 164 yX9_size, .static yX9_size, .code yX9_size cX9_size 2 (some .double)] ++ wsX90)
def wsX9_joinSensor_r1 : List Cond := [Cond.fieldLink RX9 30 "AssistRowsModel" "many" "[I", Cond.fieldLink RX9 42 "AssistRowsModel" "taken" "[I", Cond.fieldLink RX9 13 "AssistRowsModel" "x" "[D", Cond.constantDouble RX9 142 (4602678819172646912), Cond.fieldLink RX9 33 "AssistRowsModel" "mx" "[D", Cond.fieldLink RX9 17 "AssistRowsModel" "y" "[D", Cond.fieldLink RX9 36 "AssistRowsModel" "my" "[D", Cond.fieldLink RX9 20 "AssistRowsModel" "v" "[D", Cond.constantDouble RX9 189 (4598175219545276416), Cond.fieldLink RX9 39 "AssistRowsModel" "mv" "[D", Cond.fieldLink RX9 23 "AssistRowsModel" "sure" "[I", Cond.methodLink RX9 185 yX9_findWay, Cond.instanceMethod yX9_findWay, Cond.selects RX9 yX9_findWay yX9_findWay, Cond.initialized RX9, Cond.code yX9_findWay cX9_findWay 11 none, Cond.fieldLink RX9 45 "AssistRowsModel" "way" "[I", Cond.methodLink RX9 174 yX9_isWay, Cond.instanceMethod yX9_isWay, Cond.selects RX9 yX9_isWay yX9_isWay, Cond.code yX9_isWay cX9_isWay 4 (some .boolean), Cond.methodLink RX9 170 yX9_may, Cond.instanceMethod yX9_may, Cond.selects RX9 yX9_may yX9_may]
def wsX9_joinSensor_r2 : List Cond := [Cond.code yX9_may cX9_may 3 (some .boolean), Cond.fieldLink RX9 7 "AssistRowsModel" "isThere" "[Z", Cond.constantDouble RX9 116 (4617315517961601024), Cond.constantDouble RX9 72 (4611686018427387904), Cond.methodLink RX9 164 yX9_size, Cond.static yX9_size, Cond.code yX9_size cX9_size 2 (some .double), Cond.methodLink RX9 178 yX9_cost, Cond.instanceMethod yX9_cost, Cond.selects RX9 yX9_cost yX9_cost, Cond.code yX9_cost cX9_cost 3 (some .int), Cond.constantDouble RX9 168 (4636737291354636288), Cond.methodLink RX9 191 yX9_tell, Cond.instanceMethod yX9_tell, Cond.selects RX9 yX9_tell yX9_tell, Cond.code yX9_tell cX9_tell 5 none, Cond.fieldLink RX9 48 "AssistRowsModel" "toldFirst" "[Z", Cond.fieldLink RX9 54 "AssistRowsModel" "speedFirst" "[D", Cond.fieldLink RX9 51 "AssistRowsModel" "toldSecond" "[Z", Cond.fieldLink RX9 182 "AssistRowsModel" "differs" "Z", Cond.methodLink RX9 195 yX9_begin, Cond.instanceMethod yX9_begin, Cond.selects RX9 yX9_begin yX9_begin, Cond.code yX9_begin cX9_begin 4 none]
def wsX9_joinSensor_r3 : List Cond := [Cond.fieldLink RX9 27 "AssistRowsModel" "coast" "[I"]
def wsX9_joinSensor : List Cond := .code yX9_joinSensor cX9_joinSensor 6 none :: ((wsX9_joinSensor_r1 ++ (wsX9_joinSensor_r2 ++ wsX9_joinSensor_r3)) ++ wsX90)
def wsX9_coastAll : List Cond := .code yX9_coastAll cX9_coastAll 2 none :: ([.fieldLink RX9 7 "AssistRowsModel" "isThere" "[Z", .fieldLink RX9 48 "AssistRowsModel" "toldFirst" "[Z", .fieldLink RX9 51 "AssistRowsModel" "toldSecond" "[Z", .fieldLink RX9 27 "AssistRowsModel" "coast" "[I", .fieldLink RX9 23 "AssistRowsModel" "sure" "[I", .fieldLink RX9 13 "AssistRowsModel" "x" "[D", .constantDouble RX9 199 (4643000109586448384)] ++ wsX90)
def wsX9_findLead : List Cond := .code yX9_findLead cX9_findLead 4 none :: ([.fieldLink RX9 77 "AssistRowsModel" "lead" "I", .fieldLink RX9 122 "AssistRowsModel" "offset" "D", .fieldLink RX9 13 "AssistRowsModel" "x" "[D", .fieldLink RX9 125 "AssistRowsModel" "slope" "D", .fieldLink RX9 128 "AssistRowsModel" "curve" "D", .fieldLink RX9 7 "AssistRowsModel" "isThere" "[Z", .fieldLink RX9 23 "AssistRowsModel" "sure" "[I", .fieldLink RX9 17 "AssistRowsModel" "y" "[D", .constantDouble RX9 201 (4610560118520545280), .constantDouble RX9 81 (13830554455654793216), .fieldLink RX9 86 "AssistRowsModel" "leadX" "D", .fieldLink RX9 203 "AssistRowsModel" "speed" "D", .fieldLink RX9 20 "AssistRowsModel" "v" "[D", .fieldLink RX9 83 "AssistRowsModel" "left" "D", .methodLink RX9 164 yX9_size, .static yX9_size, .initialized RX9, .code yX9_size cX9_size 2 (some .double)] ++ wsX90)
def wsX9_rise : List Cond := .code yX9_rise cX9_rise 2 none :: ([.fieldLink RX9 83 "AssistRowsModel" "left" "D", .constantDouble RX9 206 (4605380978949069210), .constantDouble RX9 208 (4609884578576439706), .constantDouble RX9 210 (4613037098315599053), .fieldLink RX9 137 "AssistRowsModel" "steer" "D", .constantDouble RX9 212 (4599075939470750515), .fieldLink RX9 214 "AssistRowsModel" "stage" "I", .methodLink RX9 164 yX9_size, .static yX9_size, .initialized RX9, .code yX9_size cX9_size 2 (some .double)] ++ wsX90)
def wsX9_off : List Cond := .code yX9_off cX9_off 1 (some .double) :: ([.fieldLink RX9 57 "AssistRowsModel" "isOn" "Z", .fieldLink RX9 109 "AssistRowsModel" "now" "D", .fieldLink RX9 149 "AssistRowsModel" "offAt" "D"] ++ wsX90)
def wsX9_lookAtHands : List Cond := .code yX9_lookAtHands cX9_lookAtHands 2 none :: ([.fieldLink RX9 57 "AssistRowsModel" "isOn" "Z", .constantDouble RX9 221 (4630826316843712512), .fieldLink RX9 152 "AssistRowsModel" "isAsked" "Z", .fieldLink RX9 109 "AssistRowsModel" "now" "D", .fieldLink RX9 158 "AssistRowsModel" "askedAt" "D", .constantDouble RX9 223 (4621819117588971520), .fieldLink RX9 155 "AssistRowsModel" "isStopping" "Z", .fieldLink RX9 203 "AssistRowsModel" "speed" "D", .methodLink RX9 217 yX9_off, .instanceMethod yX9_off, .selects RX9 yX9_off yX9_off, .initialized RX9, .code yX9_off cX9_off 1 (some .double), .fieldLink RX9 149 "AssistRowsModel" "offAt" "D"] ++ wsX90)
def wsX9_findMode : List Cond := .code yX9_findMode cX9_findMode 1 (some .int) :: ([.fieldLink RX9 225 "AssistRowsModel" "differing" "I", .fieldLink RX9 155 "AssistRowsModel" "isStopping" "Z", .fieldLink RX9 57 "AssistRowsModel" "isOn" "Z", .constantDouble RX9 228 (4624633867356078080), .fieldLink RX9 152 "AssistRowsModel" "isAsked" "Z", .fieldLink RX9 214 "AssistRowsModel" "stage" "I", .fieldLink RX9 131 "AssistRowsModel" "pedal" "D", .fieldLink RX9 134 "AssistRowsModel" "brake" "D", .fieldLink RX9 77 "AssistRowsModel" "lead" "I", .methodLink RX9 217 yX9_off, .instanceMethod yX9_off, .selects RX9 yX9_off yX9_off, .initialized RX9, .code yX9_off cX9_off 1 (some .double), .fieldLink RX9 109 "AssistRowsModel" "now" "D", .fieldLink RX9 149 "AssistRowsModel" "offAt" "D"] ++ wsX90)
def wsX9_findForce_r1 : List Cond := [Cond.fieldLink RX9 146 "AssistRowsModel" "wished" "D", Cond.fieldLink RX9 203 "AssistRowsModel" "speed" "D", Cond.constantDouble RX9 142 (4602678819172646912), Cond.fieldLink RX9 77 "AssistRowsModel" "lead" "I", Cond.fieldLink RX9 13 "AssistRowsModel" "x" "[D", Cond.constantDouble RX9 144 (4613937818241073152), Cond.fieldLink RX9 63 "AssistRowsModel" "gap" "D", Cond.constantDouble RX9 230 (4596373779694328218), Cond.fieldLink RX9 20 "AssistRowsModel" "v" "[D", Cond.constantDouble RX9 232 (4603579539098121011), Cond.fieldLink RX9 234 "AssistRowsModel" "mode" "I", Cond.constantDouble RX9 237 (13838435755002691584), Cond.constantDouble RX9 72 (4611686018427387904), Cond.fieldLink RX9 131 "AssistRowsModel" "pedal" "D", Cond.fieldLink RX9 155 "AssistRowsModel" "isStopping" "Z", Cond.constantDouble RX9 243 (13835058055282163712), Cond.fieldLink RX9 134 "AssistRowsModel" "brake" "D", Cond.constantDouble RX9 245 (13844628204490326016), Cond.fieldLink RX9 214 "AssistRowsModel" "stage" "I", Cond.constantDouble RX9 247 (13839561654909534208), Cond.fieldLink RX9 69 "AssistRowsModel" "braking" "D", Cond.fieldLink RX9 74 "AssistRowsModel" "pull" "D", Cond.methodLink RX9 239 yX9_between, Cond.static yX9_between]
def wsX9_findForce_r2 : List Cond := [Cond.initialized RX9, Cond.code yX9_between cX9_between 6 (some .double)]
def wsX9_findForce : List Cond := .code yX9_findForce cX9_findForce 5 (some .double) :: ((wsX9_findForce_r1 ++ wsX9_findForce_r2) ++ wsX90)
def wsX9_turn : List Cond := .code yX9_turn cX9_turn 3 none :: ([.constantDouble RX9 249 (4591870180066957722), .fieldLink RX9 122 "AssistRowsModel" "offset" "D", .constantDouble RX9 142 (4602678819172646912), .fieldLink RX9 125 "AssistRowsModel" "slope" "D", .constantDouble RX9 251 (13822447976325526323), .constantDouble RX9 212 (4599075939470750515), .fieldLink RX9 137 "AssistRowsModel" "steer" "D", .constantDouble RX9 253 (4587366580439587226), .fieldLink RX9 255 "AssistRowsModel" "wheel" "D", .methodLink RX9 239 yX9_between, .static yX9_between, .initialized RX9, .code yX9_between cX9_between 6 (some .double), .methodLink RX9 164 yX9_size, .static yX9_size, .code yX9_size cX9_size 2 (some .double)] ++ wsX90)
def wsX9_step_r1 : List Cond := [Cond.fieldLink RX9 92 "AssistRowsModel" "fault" "I", Cond.constantDouble RX9 107 (4634626229029306368), Cond.fieldLink RX9 109 "AssistRowsModel" "now" "D", Cond.constantDouble RX9 112 (4681608360884174848), Cond.fieldLink RX9 203 "AssistRowsModel" "speed" "D", Cond.fieldLink RX9 182 "AssistRowsModel" "differs" "Z", Cond.fieldLink RX9 13 "AssistRowsModel" "x" "[D", Cond.fieldLink RX9 20 "AssistRowsModel" "v" "[D", Cond.fieldLink RX9 48 "AssistRowsModel" "toldFirst" "[Z", Cond.fieldLink RX9 51 "AssistRowsModel" "toldSecond" "[Z", Cond.fieldLink RX9 225 "AssistRowsModel" "differing" "I", Cond.fieldLink RX9 234 "AssistRowsModel" "mode" "I", Cond.fieldLink RX9 280 "AssistRowsModel" "force" "D", Cond.methodLink RX9 97 yX9_in, Cond.static yX9_in, Cond.initialized RX9, Cond.code yX9_in cX9_in 6 (some .boolean), Cond.methodLink RX9 258 yX9_joinSensor, Cond.instanceMethod yX9_joinSensor, Cond.selects RX9 yX9_joinSensor yX9_joinSensor, Cond.code yX9_joinSensor cX9_joinSensor 6 none, Cond.fieldLink RX9 30 "AssistRowsModel" "many" "[I", Cond.fieldLink RX9 42 "AssistRowsModel" "taken" "[I", Cond.constantDouble RX9 142 (4602678819172646912)]
def wsX9_step_r2 : List Cond := [Cond.fieldLink RX9 33 "AssistRowsModel" "mx" "[D", Cond.fieldLink RX9 17 "AssistRowsModel" "y" "[D", Cond.fieldLink RX9 36 "AssistRowsModel" "my" "[D", Cond.constantDouble RX9 189 (4598175219545276416), Cond.fieldLink RX9 39 "AssistRowsModel" "mv" "[D", Cond.fieldLink RX9 23 "AssistRowsModel" "sure" "[I", Cond.methodLink RX9 185 yX9_findWay, Cond.instanceMethod yX9_findWay, Cond.selects RX9 yX9_findWay yX9_findWay, Cond.code yX9_findWay cX9_findWay 11 none, Cond.fieldLink RX9 45 "AssistRowsModel" "way" "[I", Cond.methodLink RX9 174 yX9_isWay, Cond.instanceMethod yX9_isWay, Cond.selects RX9 yX9_isWay yX9_isWay, Cond.code yX9_isWay cX9_isWay 4 (some .boolean), Cond.methodLink RX9 170 yX9_may, Cond.instanceMethod yX9_may, Cond.selects RX9 yX9_may yX9_may, Cond.code yX9_may cX9_may 3 (some .boolean), Cond.fieldLink RX9 7 "AssistRowsModel" "isThere" "[Z", Cond.constantDouble RX9 116 (4617315517961601024), Cond.constantDouble RX9 72 (4611686018427387904), Cond.methodLink RX9 164 yX9_size, Cond.static yX9_size]
def wsX9_step_r3 : List Cond := [Cond.code yX9_size cX9_size 2 (some .double), Cond.methodLink RX9 178 yX9_cost, Cond.instanceMethod yX9_cost, Cond.selects RX9 yX9_cost yX9_cost, Cond.code yX9_cost cX9_cost 3 (some .int), Cond.constantDouble RX9 168 (4636737291354636288), Cond.methodLink RX9 191 yX9_tell, Cond.instanceMethod yX9_tell, Cond.selects RX9 yX9_tell yX9_tell, Cond.code yX9_tell cX9_tell 5 none, Cond.fieldLink RX9 54 "AssistRowsModel" "speedFirst" "[D", Cond.methodLink RX9 195 yX9_begin, Cond.instanceMethod yX9_begin, Cond.selects RX9 yX9_begin yX9_begin, Cond.code yX9_begin cX9_begin 4 none, Cond.fieldLink RX9 27 "AssistRowsModel" "coast" "[I", Cond.methodLink RX9 261 yX9_coastAll, Cond.instanceMethod yX9_coastAll, Cond.selects RX9 yX9_coastAll yX9_coastAll, Cond.code yX9_coastAll cX9_coastAll 2 none, Cond.constantDouble RX9 199 (4643000109586448384), Cond.methodLink RX9 264 yX9_findLead, Cond.instanceMethod yX9_findLead, Cond.selects RX9 yX9_findLead yX9_findLead]
def wsX9_step_r4 : List Cond := [Cond.code yX9_findLead cX9_findLead 4 none, Cond.fieldLink RX9 77 "AssistRowsModel" "lead" "I", Cond.fieldLink RX9 122 "AssistRowsModel" "offset" "D", Cond.fieldLink RX9 125 "AssistRowsModel" "slope" "D", Cond.fieldLink RX9 128 "AssistRowsModel" "curve" "D", Cond.constantDouble RX9 201 (4610560118520545280), Cond.constantDouble RX9 81 (13830554455654793216), Cond.fieldLink RX9 86 "AssistRowsModel" "leadX" "D", Cond.fieldLink RX9 83 "AssistRowsModel" "left" "D", Cond.methodLink RX9 267 yX9_rise, Cond.instanceMethod yX9_rise, Cond.selects RX9 yX9_rise yX9_rise, Cond.code yX9_rise cX9_rise 2 none, Cond.constantDouble RX9 206 (4605380978949069210), Cond.constantDouble RX9 208 (4609884578576439706), Cond.constantDouble RX9 210 (4613037098315599053), Cond.fieldLink RX9 137 "AssistRowsModel" "steer" "D", Cond.constantDouble RX9 212 (4599075939470750515), Cond.fieldLink RX9 214 "AssistRowsModel" "stage" "I", Cond.methodLink RX9 270 yX9_lookAtHands, Cond.instanceMethod yX9_lookAtHands, Cond.selects RX9 yX9_lookAtHands yX9_lookAtHands, Cond.code yX9_lookAtHands cX9_lookAtHands 2 none, Cond.fieldLink RX9 57 "AssistRowsModel" "isOn" "Z"]
def wsX9_step_r5 : List Cond := [Cond.constantDouble RX9 221 (4630826316843712512), Cond.fieldLink RX9 152 "AssistRowsModel" "isAsked" "Z", Cond.fieldLink RX9 158 "AssistRowsModel" "askedAt" "D", Cond.constantDouble RX9 223 (4621819117588971520), Cond.fieldLink RX9 155 "AssistRowsModel" "isStopping" "Z", Cond.methodLink RX9 217 yX9_off, Cond.instanceMethod yX9_off, Cond.selects RX9 yX9_off yX9_off, Cond.code yX9_off cX9_off 1 (some .double), Cond.fieldLink RX9 149 "AssistRowsModel" "offAt" "D", Cond.methodLink RX9 273 yX9_findMode, Cond.instanceMethod yX9_findMode, Cond.selects RX9 yX9_findMode yX9_findMode, Cond.code yX9_findMode cX9_findMode 1 (some .int), Cond.constantDouble RX9 228 (4624633867356078080), Cond.fieldLink RX9 131 "AssistRowsModel" "pedal" "D", Cond.fieldLink RX9 134 "AssistRowsModel" "brake" "D", Cond.methodLink RX9 277 yX9_findForce, Cond.instanceMethod yX9_findForce, Cond.selects RX9 yX9_findForce yX9_findForce, Cond.code yX9_findForce cX9_findForce 5 (some .double), Cond.fieldLink RX9 146 "AssistRowsModel" "wished" "D", Cond.constantDouble RX9 144 (4613937818241073152), Cond.fieldLink RX9 63 "AssistRowsModel" "gap" "D"]
def wsX9_step_r6 : List Cond := [Cond.constantDouble RX9 230 (4596373779694328218), Cond.constantDouble RX9 232 (4603579539098121011), Cond.constantDouble RX9 237 (13838435755002691584), Cond.constantDouble RX9 243 (13835058055282163712), Cond.constantDouble RX9 245 (13844628204490326016), Cond.constantDouble RX9 247 (13839561654909534208), Cond.fieldLink RX9 69 "AssistRowsModel" "braking" "D", Cond.fieldLink RX9 74 "AssistRowsModel" "pull" "D", Cond.methodLink RX9 239 yX9_between, Cond.static yX9_between, Cond.code yX9_between cX9_between 6 (some .double), Cond.methodLink RX9 283 yX9_turn, Cond.instanceMethod yX9_turn, Cond.selects RX9 yX9_turn yX9_turn, Cond.code yX9_turn cX9_turn 3 none, Cond.constantDouble RX9 249 (4591870180066957722), Cond.constantDouble RX9 251 (13822447976325526323), Cond.constantDouble RX9 253 (4587366580439587226), Cond.fieldLink RX9 255 "AssistRowsModel" "wheel" "D"]
def wsX9_step : List Cond := .code yX9_step cX9_step 8 (some .int) :: ((wsX9_step_r1 ++ (wsX9_step_r2 ++ (wsX9_step_r3 ++ (wsX9_step_r4 ++ (wsX9_step_r5 ++ wsX9_step_r6))))) ++ wsX90)
def wsX9_plain : List Cond := .code yX9_plain cX9_plain 2 (some .double) :: ([])
def wsX9_wish : List Cond := .code yX9_wish cX9_wish 2 (some .double) :: ([.fieldLink RX9 92 "AssistRowsModel" "fault" "I", .fieldLink RX9 280 "AssistRowsModel" "force" "D", .fieldLink RX9 255 "AssistRowsModel" "wheel" "D", .fieldLink RX9 83 "AssistRowsModel" "left" "D", .fieldLink RX9 86 "AssistRowsModel" "leadX" "D", .methodLink RX9 286 yX9_plain, .static yX9_plain, .initialized RX9, .code yX9_plain cX9_plain 2 (some .double)] ++ wsX90)
def wsX9_stage : List Cond := .code yX9_stage cX9_stage 1 (some .int) :: ([.fieldLink RX9 92 "AssistRowsModel" "fault" "I", .fieldLink RX9 214 "AssistRowsModel" "stage" "I"] ++ wsX90)
def wsX9_mode : List Cond := .code yX9_mode cX9_mode 1 (some .int) :: ([.fieldLink RX9 92 "AssistRowsModel" "fault" "I", .fieldLink RX9 234 "AssistRowsModel" "mode" "I"] ++ wsX90)
def wsX9_time : List Cond := .code yX9_time cX9_time 2 (some .double) :: ([.fieldLink RX9 92 "AssistRowsModel" "fault" "I", .fieldLink RX9 7 "AssistRowsModel" "isThere" "[Z", .fieldLink RX9 203 "AssistRowsModel" "speed" "D", .fieldLink RX9 20 "AssistRowsModel" "v" "[D", .fieldLink RX9 13 "AssistRowsModel" "x" "[D", .constantDouble RX9 81 (13830554455654793216), .methodLink RX9 286 yX9_plain, .static yX9_plain, .initialized RX9, .code yX9_plain cX9_plain 2 (some .double)] ++ wsX90)
def wsX9_whole : List Cond := .code yX9_whole cX9_whole 5 (some .long) :: ([.fieldLink RX9 92 "AssistRowsModel" "fault" "I"] ++ wsX90)
def wsX9_track : List Cond := .code yX9_track cX9_track 3 (some .int) :: ([.fieldLink RX9 92 "AssistRowsModel" "fault" "I", .fieldLink RX9 7 "AssistRowsModel" "isThere" "[Z", .fieldLink RX9 23 "AssistRowsModel" "sure" "[I", .fieldLink RX9 27 "AssistRowsModel" "coast" "[I", .fieldLink RX9 13 "AssistRowsModel" "x" "[D", .constantDouble RX9 168 (4636737291354636288), .fieldLink RX9 17 "AssistRowsModel" "y" "[D", .fieldLink RX9 20 "AssistRowsModel" "v" "[D"] ++ wsX90)
def wsL_whole : List Cond := .codeWith yL_whole cL_whole 7 (some .int) [(0, 10, 13, 13)] :: ([.classLink RL 13 "java/lang/ArithmeticException", .methodLink RL 7 yX8_whole, .instanceMethod yX8_whole, .selects RX8 yX8_whole yX8_whole, .initialized RX8, .code yX8_whole cX8_whole 5 (some .long), .classLink RX8 190 "java/lang/ArithmeticException", .initialized "java/lang/ArithmeticException"] ++ (vx_atS RX8 194 "java/lang/ArithmeticException" ["java/lang/RuntimeException", "java/lang/Exception"]).filter goodWord)
def wsL_law0_r1 : List Cond := [Cond.classLink RL 8 RX8, Cond.instantiable RX8 17, Cond.initialized RX8, Cond.classLink RL 16 RX9, Cond.instantiable RX9 44, Cond.initialized RX9, Cond.arrayClass .long, Cond.constantDouble RL 19 (4593671619917905920), Cond.constantLong RL 50 (4294967295), Cond.methodLink RL 15 yX8_init, Cond.instanceMethod yX8_init, Cond.code yX8_init cX8_init 1 none, Cond.methodLink RX8 1 objectInit, Cond.instanceMethod objectInit, Cond.code objectInit ⟨#[0xb1]⟩ 1 none, Cond.classLink RX8 7 RX4, Cond.instantiable RX4 4, Cond.initialized RX4, Cond.fieldLink RX8 10 "AssistRows" "sensor0" "LAssistRows$Measures;", Cond.fieldLink RX8 16 "AssistRows" "sensor1" "LAssistRows$Measures;", Cond.classLink RX8 19 RX7, Cond.instantiable RX7 10, Cond.initialized RX7, Cond.fieldLink RX8 22 "AssistRows" "tracks" "LAssistRows$Tracks;"]
def wsL_law0_r2 : List Cond := [Cond.classLink RX8 26 RX2, Cond.instantiable RX2 3, Cond.initialized RX2, Cond.fieldLink RX8 29 "AssistRows" "lane" "LAssistRows$Lane;", Cond.classLink RX8 33 RX0, Cond.instantiable RX0 3, Cond.initialized RX0, Cond.fieldLink RX8 36 "AssistRows" "driver" "LAssistRows$Driver;", Cond.classLink RX8 40 RX3, Cond.instantiable RX3 4, Cond.initialized RX3, Cond.fieldLink RX8 43 "AssistRows" "limits" "LAssistRows$Limits;", Cond.classLink RX8 47 RX1, Cond.instantiable RX1 5, Cond.initialized RX1, Cond.fieldLink RX8 50 "AssistRows" "hands" "LAssistRows$Hands;", Cond.classLink RX8 54 RX6, Cond.instantiable RX6 2, Cond.initialized RX6, Cond.fieldLink RX8 57 "AssistRows" "signs" "LAssistRows$Signs;", Cond.constantDouble RX8 61 (13830554455654793216), Cond.fieldLink RX8 63 "AssistRows" "left" "D", Cond.fieldLink RX8 67 "AssistRows" "leadX" "D", Cond.instanceMethod yX4_init]
def wsL_law0_r3 : List Cond := [Cond.code yX4_init cX4_init 1 none, Cond.methodLink RX4 3 objectInit, Cond.arrayClass .double, Cond.fieldLink RX4 9 "AssistRows$Measures" "x" "[D", Cond.fieldLink RX4 15 "AssistRows$Measures" "y" "[D", Cond.fieldLink RX4 18 "AssistRows$Measures" "speed" "[D", Cond.instanceMethod yX7_init, Cond.code yX7_init cX7_init 1 none, Cond.methodLink RX7 3 objectInit, Cond.arrayClass .boolean, Cond.fieldLink RX7 9 "AssistRows$Tracks" "there" "[Z", Cond.fieldLink RX7 15 "AssistRows$Tracks" "x" "[D", Cond.fieldLink RX7 19 "AssistRows$Tracks" "y" "[D", Cond.fieldLink RX7 22 "AssistRows$Tracks" "speed" "[D", Cond.arrayClass .int, Cond.fieldLink RX7 25 "AssistRows$Tracks" "sure" "[I", Cond.fieldLink RX7 29 "AssistRows$Tracks" "coast" "[I", Cond.fieldLink RX7 32 "AssistRows$Tracks" "met" "[Z", Cond.fieldLink RX7 35 "AssistRows$Tracks" "metSpeed" "[D", Cond.classLink RX7 38 RX5, Cond.instantiable RX5 7, Cond.initialized RX5, Cond.fieldLink RX7 41 "AssistRows$Tracks" "pairing" "LAssistRows$Pairing;", Cond.instanceMethod yX5_init]
def wsL_law0_r4 : List Cond := [Cond.code yX5_init cX5_init 1 none, Cond.methodLink RX5 3 objectInit, Cond.fieldLink RX5 9 "AssistRows$Pairing" "best" "[I", Cond.fieldLink RX5 15 "AssistRows$Pairing" "tried" "[I", Cond.fieldLink RX5 18 "AssistRows$Pairing" "costs" "[I", Cond.fieldLink RX5 21 "AssistRows$Pairing" "taken" "[Z", Cond.instanceMethod yX2_init, Cond.code yX2_init cX2_init 1 none, Cond.methodLink RX2 1 objectInit, Cond.instanceMethod yX0_init, Cond.code yX0_init cX0_init 1 none, Cond.methodLink RX0 1 objectInit, Cond.instanceMethod yX3_init, Cond.code yX3_init cX3_init 1 none, Cond.methodLink RX3 1 objectInit, Cond.fieldLink RX3 7 "AssistRows$Limits" "speed" "D", Cond.constantDouble RX3 13 (4609434218613702656), Cond.fieldLink RX3 15 "AssistRows$Limits" "gap" "D", Cond.constantDouble RX3 18 (4621256167635550208), Cond.fieldLink RX3 20 "AssistRows$Limits" "braking" "D", Cond.constantDouble RX3 23 (4611686018427387904), Cond.fieldLink RX3 25 "AssistRows$Limits" "pull" "D", Cond.instanceMethod yX1_init, Cond.code yX1_init cX1_init 1 none]
def wsL_law0_r5 : List Cond := [Cond.methodLink RX1 1 objectInit, Cond.fieldLink RX1 7 "AssistRows$Hands" "on" "Z", Cond.instanceMethod yX6_init, Cond.code yX6_init cX6_init 1 none, Cond.methodLink RX6 3 objectInit, Cond.fieldLink RX6 9 "AssistRows$Signs" "counts" "[I", Cond.methodLink RL 18 yX9_init, Cond.instanceMethod yX9_init, Cond.code yX9_init cX9_init 1 none, Cond.methodLink RX9 1 objectInit, Cond.fieldLink RX9 7 "AssistRowsModel" "isThere" "[Z", Cond.fieldLink RX9 13 "AssistRowsModel" "x" "[D", Cond.fieldLink RX9 17 "AssistRowsModel" "y" "[D", Cond.fieldLink RX9 20 "AssistRowsModel" "v" "[D", Cond.fieldLink RX9 23 "AssistRowsModel" "sure" "[I", Cond.fieldLink RX9 27 "AssistRowsModel" "coast" "[I", Cond.fieldLink RX9 30 "AssistRowsModel" "many" "[I", Cond.fieldLink RX9 33 "AssistRowsModel" "mx" "[D", Cond.fieldLink RX9 36 "AssistRowsModel" "my" "[D", Cond.fieldLink RX9 39 "AssistRowsModel" "mv" "[D", Cond.fieldLink RX9 42 "AssistRowsModel" "taken" "[I", Cond.fieldLink RX9 45 "AssistRowsModel" "way" "[I", Cond.fieldLink RX9 48 "AssistRowsModel" "toldFirst" "[Z", Cond.fieldLink RX9 51 "AssistRowsModel" "toldSecond" "[Z"]
def wsL_law0_r6 : List Cond := [Cond.fieldLink RX9 54 "AssistRowsModel" "speedFirst" "[D", Cond.fieldLink RX9 57 "AssistRowsModel" "isOn" "Z", Cond.constantDouble RX9 61 (4609434218613702656), Cond.fieldLink RX9 63 "AssistRowsModel" "gap" "D", Cond.constantDouble RX9 67 (4621256167635550208), Cond.fieldLink RX9 69 "AssistRowsModel" "braking" "D", Cond.constantDouble RX9 72 (4611686018427387904), Cond.fieldLink RX9 74 "AssistRowsModel" "pull" "D", Cond.fieldLink RX9 77 "AssistRowsModel" "lead" "I", Cond.constantDouble RX9 81 (13830554455654793216), Cond.fieldLink RX9 83 "AssistRowsModel" "left" "D", Cond.fieldLink RX9 86 "AssistRowsModel" "leadX" "D", Cond.fieldLink RX9 89 "AssistRowsModel" "counts" "[I", Cond.methodLink RL 21 yX8_object, Cond.instanceMethod yX8_object, Cond.selects RX8 yX8_object yX8_object, Cond.code yX8_object cX8_object 10 (some .int), Cond.constantDouble RX8 70 (4641240890982006784), Cond.constantDouble RX8 76 (13849694754071117824), Cond.constantDouble RX8 78 (4626322717216342016), Cond.constantDouble RX8 80 (13845191154443747328), Cond.constantDouble RX8 82 (4634626229029306368), Cond.methodLink RX8 72 yX8_within, Cond.static yX8_within]
def wsL_law0_r7 : List Cond := [Cond.code yX8_within cX8_within 6 (some .boolean), Cond.methodLink RX8 84 yX8_isTime, Cond.instanceMethod yX8_isTime, Cond.selects RX8 yX8_isTime yX8_isTime, Cond.code yX8_isTime cX8_isTime 3 (some .boolean), Cond.fieldLink RX8 109 "AssistRows" "now" "D", Cond.constantDouble RX8 214 (4681608360884174848), Cond.methodLink RX8 88 yX4_add, Cond.instanceMethod yX4_add, Cond.selects RX4 yX4_add yX4_add, Cond.code yX4_add cX4_add 7 (some .int), Cond.fieldLink RX4 21 "AssistRows$Measures" "count" "I", Cond.methodLink RL 25 yX9_object, Cond.instanceMethod yX9_object, Cond.selects RX9 yX9_object yX9_object, Cond.code yX9_object cX9_object 11 (some .int), Cond.fieldLink RX9 92 "AssistRowsModel" "fault" "I", Cond.constantDouble RX9 95 (4641240890982006784), Cond.constantDouble RX9 101 (13849694754071117824), Cond.constantDouble RX9 103 (4626322717216342016), Cond.constantDouble RX9 105 (13845191154443747328), Cond.constantDouble RX9 107 (4634626229029306368), Cond.fieldLink RX9 109 "AssistRowsModel" "now" "D", Cond.constantDouble RX9 112 (4681608360884174848)]
def wsL_law0_r8 : List Cond := [Cond.methodLink RX9 97 yX9_in, Cond.static yX9_in, Cond.code yX9_in cX9_in 6 (some .boolean), Cond.methodLink RL 26 yX8_lane, Cond.instanceMethod yX8_lane, Cond.selects RX8 yX8_lane yX8_lane, Cond.code yX8_lane cX8_lane 7 (some .int), Cond.constantDouble RX8 92 (13840687554816376832), Cond.constantDouble RX8 94 (4617315517961601024), Cond.constantDouble RX8 96 (13800290266158863483), Cond.constantDouble RX8 98 (4576918229304087675), Cond.fieldLink RX8 100 "AssistRows$Lane" "offset" "D", Cond.fieldLink RX8 103 "AssistRows$Lane" "slope" "D", Cond.fieldLink RX8 106 "AssistRows$Lane" "curve" "D", Cond.methodLink RL 30 yX9_lane, Cond.instanceMethod yX9_lane, Cond.selects RX9 yX9_lane yX9_lane, Cond.code yX9_lane cX9_lane 7 (some .int), Cond.constantDouble RX9 114 (13840687554816376832), Cond.constantDouble RX9 116 (4617315517961601024), Cond.constantDouble RX9 118 (13800290266158863483), Cond.constantDouble RX9 120 (4576918229304087675), Cond.fieldLink RX9 122 "AssistRowsModel" "offset" "D", Cond.fieldLink RX9 125 "AssistRowsModel" "slope" "D"]
def wsL_law0_r9 : List Cond := [Cond.fieldLink RX9 128 "AssistRowsModel" "curve" "D", Cond.methodLink RL 31 yX8_step, Cond.instanceMethod yX8_step, Cond.selects RX8 yX8_step yX8_step, Cond.code yX8_step cX8_step 7 (some .int), Cond.fieldLink RX8 116 "AssistRows" "speed" "D", Cond.fieldLink RX8 137 "AssistRows$Tracks" "x" "[D", Cond.fieldLink RX8 141 "AssistRows" "stage" "I", Cond.fieldLink RX8 160 "AssistRows" "mode" "I", Cond.fieldLink RX8 167 "AssistRows" "pull" "D", Cond.fieldLink RX8 170 "AssistRows" "turn" "D", Cond.constantDouble RX8 173 (4587366580439587226), Cond.methodLink RX8 112 yX7_move, Cond.instanceMethod yX7_move, Cond.selects RX7 yX7_move yX7_move, Cond.code yX7_move cX7_move 6 none, Cond.methodLink RX8 119 yX8_joinMeasures, Cond.instanceMethod yX8_joinMeasures, Cond.selects RX8 yX8_joinMeasures yX8_joinMeasures, Cond.code yX8_joinMeasures cX8_joinMeasures 1 none, Cond.fieldLink RX8 223 "AssistRows$Measures" "count" "I", Cond.fieldLink RX8 226 "AssistRows$Tracks" "differ" "Z", Cond.fieldLink RX8 230 "AssistRows" "differing" "I", Cond.methodLink RX8 216 yX7_forgetMeetings]
def wsL_law0_r10 : List Cond := [Cond.instanceMethod yX7_forgetMeetings, Cond.selects RX7 yX7_forgetMeetings yX7_forgetMeetings, Cond.code yX7_forgetMeetings cX7_forgetMeetings 2 none, Cond.fieldLink RX7 45 "AssistRows$Tracks" "differ" "Z", Cond.methodLink RX8 219 yX7_meet, Cond.instanceMethod yX7_meet, Cond.selects RX7 yX7_meet yX7_meet, Cond.code yX7_meet cX7_meet 4 none, Cond.fieldLink RX7 53 "AssistRows$Measures" "count" "I", Cond.fieldLink RX7 59 "AssistRows$Pairing" "best" "[I", Cond.fieldLink RX7 66 "AssistRows$Measures" "x" "[D", Cond.fieldLink RX7 67 "AssistRows$Measures" "y" "[D", Cond.fieldLink RX7 68 "AssistRows$Measures" "speed" "[D", Cond.methodLink RX7 49 yX5_solve, Cond.instanceMethod yX5_solve, Cond.selects RX5 yX5_solve yX5_solve, Cond.code yX5_solve cX5_solve 5 none, Cond.fieldLink RX5 25 "AssistRows$Measures" "count" "I", Cond.fieldLink RX5 31 "AssistRows$Pairing" "count" "I", Cond.fieldLink RX5 32 "AssistRows$Pairing" "bestJoined" "I", Cond.fieldLink RX5 35 "AssistRows$Pairing" "bestSum" "I", Cond.fieldLink RX5 38 "AssistRows$Measures" "x" "[D", Cond.fieldLink RX5 42 "AssistRows$Measures" "y" "[D", Cond.methodLink RX5 45 yX7_cost]
def wsL_law0_r11 : List Cond := [Cond.instanceMethod yX7_cost, Cond.selects RX7 yX7_cost yX7_cost, Cond.code yX7_cost cX7_cost 10 (some .int), Cond.constantDouble RX7 81 (4617315517961601024), Cond.constantDouble RX7 83 (4611686018427387904), Cond.constantDouble RX7 85 (4636737291354636288), Cond.methodLink RX7 62 yX7_isThere, Cond.instanceMethod yX7_isThere, Cond.selects RX7 yX7_isThere yX7_isThere, Cond.code yX7_isThere cX7_isThere 2 (some .boolean), Cond.static yX8_magnitude, Cond.code yX8_magnitude cX8_magnitude 2 (some .double), Cond.methodLink RX5 51 yX5_search, Cond.static yX5_search, Cond.code yX5_search cX5_search 7 none, Cond.methodLink RX5 55 yX5_keep, Cond.instanceMethod yX5_keep, Cond.selects RX5 yX5_keep yX5_keep, Cond.code yX5_keep cX5_keep 4 none, Cond.methodLink RX7 69 yX7_join, Cond.instanceMethod yX7_join, Cond.selects RX7 yX7_join yX7_join, Cond.code yX7_join cX7_join 8 none, Cond.constantDouble RX7 87 (4602678819172646912)]
def wsL_law0_r12 : List Cond := [Cond.constantDouble RX7 89 (4598175219545276416), Cond.methodLink RX7 91 yX7_meeting, Cond.instanceMethod yX7_meeting, Cond.selects RX7 yX7_meeting yX7_meeting, Cond.code yX7_meeting cX7_meeting 4 none, Cond.methodLink RX7 73 yX7_make, Cond.instanceMethod yX7_make, Cond.selects RX7 yX7_make yX7_make, Cond.code yX7_make cX7_make 8 none, Cond.methodLink RX8 122 yX7_age, Cond.instanceMethod yX7_age, Cond.selects RX7 yX7_age yX7_age, Cond.code yX7_age cX7_age 2 none, Cond.constantDouble RX7 95 (4643000109586448384), Cond.methodLink RX8 125 yX7_leadOn, Cond.instanceMethod yX7_leadOn, Cond.selects RX7 yX7_leadOn yX7_leadOn, Cond.code yX7_leadOn cX7_leadOn 7 (some .int), Cond.constantDouble RX7 102 (4610560118520545280), Cond.methodLink RX7 97 yX2_middle, Cond.instanceMethod yX2_middle, Cond.selects RX2 yX2_middle yX2_middle, Cond.code yX2_middle cX2_middle 3 (some .double), Cond.fieldLink RX2 7 "AssistRows$Lane" "offset" "D"]
def wsL_law0_r13 : List Cond := [Cond.fieldLink RX2 13 "AssistRows$Lane" "slope" "D", Cond.fieldLink RX2 16 "AssistRows$Lane" "curve" "D", Cond.methodLink RX8 129 yX7_isThere, Cond.methodLink RX8 133 yX7_secondsTo, Cond.instanceMethod yX7_secondsTo, Cond.selects RX7 yX7_secondsTo yX7_secondsTo, Cond.code yX7_secondsTo cX7_secondsTo 6 (some .double), Cond.constantDouble RX7 104 (13830554455654793216), Cond.methodLink RX8 145 yX8_dueStage, Cond.instanceMethod yX8_dueStage, Cond.selects RX8 yX8_dueStage yX8_dueStage, Cond.code yX8_dueStage cX8_dueStage 1 (some .int), Cond.constantDouble RX8 233 (4599075939470750515), Cond.constantDouble RX8 235 (4605380978949069210), Cond.constantDouble RX8 237 (4609884578576439706), Cond.constantDouble RX8 239 (4613037098315599053), Cond.methodLink RX8 175 yX0_steers, Cond.instanceMethod yX0_steers, Cond.selects RX0 yX0_steers yX0_steers, Cond.code yX0_steers cX0_steers 3 (some .boolean), Cond.fieldLink RX0 24 "AssistRows$Driver" "steer" "D", Cond.methodLink RX8 149 yX8_nextStage, Cond.static yX8_nextStage, Cond.code yX8_nextStage cX8_nextStage 2 (some .int)]
def wsL_law0_r14 : List Cond := [Cond.methodLink RX8 153 yX1_pass, Cond.instanceMethod yX1_pass, Cond.selects RX1 yX1_pass yX1_pass, Cond.code yX1_pass cX1_pass 5 none, Cond.fieldLink RX1 17 "AssistRows$Hands" "asked" "Z", Cond.fieldLink RX1 20 "AssistRows$Hands" "stopping" "Z", Cond.constantDouble RX1 30 (4630826316843712512), Cond.fieldLink RX1 23 "AssistRows$Hands" "askedAt" "D", Cond.constantDouble RX1 32 (4621819117588971520), Cond.methodLink RX1 26 yX1_off, Cond.instanceMethod yX1_off, Cond.selects RX1 yX1_off yX1_off, Cond.code yX1_off cX1_off 3 (some .double), Cond.fieldLink RX1 13 "AssistRows$Hands" "changedAt" "D", Cond.methodLink RX8 156 yX8_chosenMode, Cond.instanceMethod yX8_chosenMode, Cond.selects RX8 yX8_chosenMode yX8_chosenMode, Cond.code yX8_chosenMode cX8_chosenMode 2 (some .int), Cond.fieldLink RX8 241 "AssistRows$Hands" "stopping" "Z", Cond.constantDouble RX8 247 (4624633867356078080), Cond.fieldLink RX8 249 "AssistRows$Hands" "asked" "Z", Cond.fieldLink RX8 252 "AssistRows$Driver" "pedal" "D", Cond.fieldLink RX8 255 "AssistRows$Driver" "brake" "D", Cond.methodLink RX8 244 yX1_off]
def wsL_law0_r15 : List Cond := [Cond.methodLink RX8 163 yX8_limitedPull, Cond.instanceMethod yX8_limitedPull, Cond.selects RX8 yX8_limitedPull yX8_limitedPull, Cond.code yX8_limitedPull cX8_limitedPull 4 (some .double), Cond.constantDouble RX8 261 (4613937818241073152), Cond.constantDouble RX8 289 (13835058055282163712), Cond.constantDouble RX8 291 (13844628204490326016), Cond.constantDouble RX8 293 (13839561654909534208), Cond.fieldLink RX8 295 "AssistRows$Limits" "braking" "D", Cond.fieldLink RX8 298 "AssistRows$Limits" "pull" "D", Cond.methodLink RX8 283 yX8_keptPull, Cond.instanceMethod yX8_keptPull, Cond.selects RX8 yX8_keptPull yX8_keptPull, Cond.code yX8_keptPull cX8_keptPull 6 (some .double), Cond.fieldLink RX8 258 "AssistRows$Limits" "speed" "D", Cond.constantDouble RX8 259 (4602678819172646912), Cond.fieldLink RX8 263 "AssistRows$Limits" "gap" "D", Cond.constantDouble RX8 266 (4596373779694328218), Cond.fieldLink RX8 268 "AssistRows$Tracks" "speed" "[D", Cond.constantDouble RX8 270 (4603579539098121011), Cond.constantDouble RX8 275 (13838435755002691584), Cond.constantDouble RX8 277 (4611686018427387904), Cond.methodLink RX8 272 yX8_lesser, Cond.static yX8_lesser]
def wsL_law0_r16 : List Cond := [Cond.code yX8_lesser cX8_lesser 4 (some .double), Cond.methodLink RX8 279 yX8_between, Cond.static yX8_between, Cond.code yX8_between cX8_between 6 (some .double), Cond.methodLink RX8 286 yX8_greater, Cond.static yX8_greater, Cond.code yX8_greater cX8_greater 4 (some .double), Cond.methodLink RX8 178 yX2_straightening, Cond.instanceMethod yX2_straightening, Cond.selects RX2 yX2_straightening yX2_straightening, Cond.code yX2_straightening cX2_straightening 1 (some .double), Cond.constantDouble RX2 19 (4591870180066957722), Cond.constantDouble RX2 21 (4602678819172646912), Cond.constantDouble RX2 23 (13822447976325526323), Cond.constantDouble RX2 25 (4599075939470750515), Cond.methodLink RX8 182 yX8_turned, Cond.static yX8_turned, Cond.code yX8_turned cX8_turned 4 (some .double), Cond.methodLink RX8 299 yX8_magnitude, Cond.methodLink RL 35 yX9_step, Cond.instanceMethod yX9_step, Cond.selects RX9 yX9_step yX9_step, Cond.code yX9_step cX9_step 8 (some .int), Cond.fieldLink RX9 203 "AssistRowsModel" "speed" "D"]
def wsL_law0_r17 : List Cond := [Cond.fieldLink RX9 182 "AssistRowsModel" "differs" "Z", Cond.fieldLink RX9 225 "AssistRowsModel" "differing" "I", Cond.fieldLink RX9 234 "AssistRowsModel" "mode" "I", Cond.fieldLink RX9 280 "AssistRowsModel" "force" "D", Cond.methodLink RX9 258 yX9_joinSensor, Cond.instanceMethod yX9_joinSensor, Cond.selects RX9 yX9_joinSensor yX9_joinSensor, Cond.code yX9_joinSensor cX9_joinSensor 6 none, Cond.constantDouble RX9 142 (4602678819172646912), Cond.constantDouble RX9 189 (4598175219545276416), Cond.methodLink RX9 185 yX9_findWay, Cond.instanceMethod yX9_findWay, Cond.selects RX9 yX9_findWay yX9_findWay, Cond.code yX9_findWay cX9_findWay 11 none, Cond.methodLink RX9 174 yX9_isWay, Cond.instanceMethod yX9_isWay, Cond.selects RX9 yX9_isWay yX9_isWay, Cond.code yX9_isWay cX9_isWay 4 (some .boolean), Cond.methodLink RX9 170 yX9_may, Cond.instanceMethod yX9_may, Cond.selects RX9 yX9_may yX9_may, Cond.code yX9_may cX9_may 3 (some .boolean), Cond.methodLink RX9 164 yX9_size, Cond.static yX9_size]
def wsL_law0_r18 : List Cond := [Cond.code yX9_size cX9_size 2 (some .double), Cond.methodLink RX9 178 yX9_cost, Cond.instanceMethod yX9_cost, Cond.selects RX9 yX9_cost yX9_cost, Cond.code yX9_cost cX9_cost 3 (some .int), Cond.constantDouble RX9 168 (4636737291354636288), Cond.methodLink RX9 191 yX9_tell, Cond.instanceMethod yX9_tell, Cond.selects RX9 yX9_tell yX9_tell, Cond.code yX9_tell cX9_tell 5 none, Cond.methodLink RX9 195 yX9_begin, Cond.instanceMethod yX9_begin, Cond.selects RX9 yX9_begin yX9_begin, Cond.code yX9_begin cX9_begin 4 none, Cond.methodLink RX9 261 yX9_coastAll, Cond.instanceMethod yX9_coastAll, Cond.selects RX9 yX9_coastAll yX9_coastAll, Cond.code yX9_coastAll cX9_coastAll 2 none, Cond.constantDouble RX9 199 (4643000109586448384), Cond.methodLink RX9 264 yX9_findLead, Cond.instanceMethod yX9_findLead, Cond.selects RX9 yX9_findLead yX9_findLead, Cond.code yX9_findLead cX9_findLead 4 none, Cond.constantDouble RX9 201 (4610560118520545280)]
def wsL_law0_r19 : List Cond := [Cond.methodLink RX9 267 yX9_rise, Cond.instanceMethod yX9_rise, Cond.selects RX9 yX9_rise yX9_rise, Cond.code yX9_rise cX9_rise 2 none, Cond.constantDouble RX9 206 (4605380978949069210), Cond.constantDouble RX9 208 (4609884578576439706), Cond.constantDouble RX9 210 (4613037098315599053), Cond.fieldLink RX9 137 "AssistRowsModel" "steer" "D", Cond.constantDouble RX9 212 (4599075939470750515), Cond.fieldLink RX9 214 "AssistRowsModel" "stage" "I", Cond.methodLink RX9 270 yX9_lookAtHands, Cond.instanceMethod yX9_lookAtHands, Cond.selects RX9 yX9_lookAtHands yX9_lookAtHands, Cond.code yX9_lookAtHands cX9_lookAtHands 2 none, Cond.constantDouble RX9 221 (4630826316843712512), Cond.fieldLink RX9 152 "AssistRowsModel" "isAsked" "Z", Cond.fieldLink RX9 158 "AssistRowsModel" "askedAt" "D", Cond.constantDouble RX9 223 (4621819117588971520), Cond.fieldLink RX9 155 "AssistRowsModel" "isStopping" "Z", Cond.methodLink RX9 217 yX9_off, Cond.instanceMethod yX9_off, Cond.selects RX9 yX9_off yX9_off, Cond.code yX9_off cX9_off 1 (some .double), Cond.fieldLink RX9 149 "AssistRowsModel" "offAt" "D"]
def wsL_law0_r20 : List Cond := [Cond.methodLink RX9 273 yX9_findMode, Cond.instanceMethod yX9_findMode, Cond.selects RX9 yX9_findMode yX9_findMode, Cond.code yX9_findMode cX9_findMode 1 (some .int), Cond.constantDouble RX9 228 (4624633867356078080), Cond.fieldLink RX9 131 "AssistRowsModel" "pedal" "D", Cond.fieldLink RX9 134 "AssistRowsModel" "brake" "D", Cond.methodLink RX9 277 yX9_findForce, Cond.instanceMethod yX9_findForce, Cond.selects RX9 yX9_findForce yX9_findForce, Cond.code yX9_findForce cX9_findForce 5 (some .double), Cond.fieldLink RX9 146 "AssistRowsModel" "wished" "D", Cond.constantDouble RX9 144 (4613937818241073152), Cond.constantDouble RX9 230 (4596373779694328218), Cond.constantDouble RX9 232 (4603579539098121011), Cond.constantDouble RX9 237 (13838435755002691584), Cond.constantDouble RX9 243 (13835058055282163712), Cond.constantDouble RX9 245 (13844628204490326016), Cond.constantDouble RX9 247 (13839561654909534208), Cond.methodLink RX9 239 yX9_between, Cond.static yX9_between, Cond.code yX9_between cX9_between 6 (some .double), Cond.methodLink RX9 283 yX9_turn, Cond.instanceMethod yX9_turn]
def wsL_law0_r21 : List Cond := [Cond.selects RX9 yX9_turn yX9_turn, Cond.code yX9_turn cX9_turn 3 none, Cond.constantDouble RX9 249 (4591870180066957722), Cond.constantDouble RX9 251 (13822447976325526323), Cond.constantDouble RX9 253 (4587366580439587226), Cond.fieldLink RX9 255 "AssistRowsModel" "wheel" "D", Cond.methodLink RL 36 yX8_wish, Cond.instanceMethod yX8_wish, Cond.selects RX8 yX8_wish yX8_wish, Cond.code yX8_wish cX8_wish 2 (some .double), Cond.methodLink RX8 186 yX8_unsignedZero, Cond.static yX8_unsignedZero, Cond.code yX8_unsignedZero cX8_unsignedZero 2 (some .double), Cond.methodLink RL 40 yX9_wish, Cond.instanceMethod yX9_wish, Cond.selects RX9 yX9_wish yX9_wish, Cond.code yX9_wish cX9_wish 2 (some .double), Cond.methodLink RX9 286 yX9_plain, Cond.static yX9_plain, Cond.code yX9_plain cX9_plain 2 (some .double), Cond.methodLink RL 41 yX8_stage, Cond.instanceMethod yX8_stage, Cond.selects RX8 yX8_stage yX8_stage, Cond.code yX8_stage cX8_stage 1 (some .int)]
def wsL_law0_r22 : List Cond := [Cond.methodLink RL 45 yX9_stage, Cond.instanceMethod yX9_stage, Cond.selects RX9 yX9_stage yX9_stage, Cond.code yX9_stage cX9_stage 1 (some .int), Cond.methodLink RL 46 yX8_time, Cond.instanceMethod yX8_time, Cond.selects RX8 yX8_time yX8_time, Cond.code yX8_time cX8_time 2 (some .double), Cond.methodLink RL 49 yX9_time, Cond.instanceMethod yX9_time, Cond.selects RX9 yX9_time yX9_time, Cond.code yX9_time cX9_time 2 (some .double), Cond.methodLink RL 52 yL_whole, Cond.static yL_whole, Cond.initialized RL, Cond.codeWith yL_whole cL_whole 7 (some .int) [(0, 10, 13, 13)], Cond.classLink RL 13 "java/lang/ArithmeticException", Cond.methodLink RL 7 yX8_whole, Cond.instanceMethod yX8_whole, Cond.selects RX8 yX8_whole yX8_whole, Cond.code yX8_whole cX8_whole 5 (some .long), Cond.classLink RX8 190 "java/lang/ArithmeticException", Cond.initialized "java/lang/ArithmeticException", Cond.methodLink RL 57 yX9_whole]
def wsL_law0_r23 : List Cond := [Cond.instanceMethod yX9_whole, Cond.selects RX9 yX9_whole yX9_whole, Cond.code yX9_whole cX9_whole 5 (some .long), Cond.methodLink RL 58 yX9_thrown, Cond.instanceMethod yX9_thrown, Cond.selects RX9 yX9_thrown yX9_thrown, Cond.code yX9_thrown cX9_thrown 1 (some .int), Cond.methodLink RL 61 yX8_driver, Cond.instanceMethod yX8_driver, Cond.selects RX8 yX8_driver yX8_driver, Cond.code yX8_driver cX8_driver 4 (some .int), Cond.methodLink RX8 197 yX0_tell, Cond.instanceMethod yX0_tell, Cond.selects RX0 yX0_tell yX0_tell, Cond.code yX0_tell cX0_tell 4 (some .boolean), Cond.constantDouble RX0 7 (13830554455654793216), Cond.fieldLink RX0 15 "AssistRows$Driver" "pedal" "D", Cond.fieldLink RX0 21 "AssistRows$Driver" "brake" "D", Cond.methodLink RL 65 yX9_driver, Cond.instanceMethod yX9_driver, Cond.selects RX9 yX9_driver yX9_driver, Cond.code yX9_driver cX9_driver 4 (some .int), Cond.methodLink RL 66 yX8_limit, Cond.instanceMethod yX8_limit]
def wsL_law0_r24 : List Cond := [Cond.selects RX8 yX8_limit yX8_limit, Cond.code yX8_limit cX8_limit 4 (some .int), Cond.methodLink RX8 201 yX3_tell, Cond.instanceMethod yX3_tell, Cond.selects RX3 yX3_tell yX3_tell, Cond.code yX3_tell cX3_tell 4 (some .boolean), Cond.methodLink RX3 28 yX3_fits, Cond.static yX3_fits, Cond.code yX3_fits cX3_fits 3 (some .boolean), Cond.constantDouble RX3 32 (4633641066610819072), Cond.constantDouble RX3 40 (4602678819172646912), Cond.constantDouble RX3 42 (4613937818241073152), Cond.methodLink RL 69 yX9_limit, Cond.instanceMethod yX9_limit, Cond.selects RX9 yX9_limit yX9_limit, Cond.code yX9_limit cX9_limit 5 (some .int), Cond.constantDouble RX9 140 (4633641066610819072), Cond.methodLink RL 70 yX8_track, Cond.instanceMethod yX8_track, Cond.selects RX8 yX8_track yX8_track, Cond.code yX8_track cX8_track 3 (some .int), Cond.methodLink RX8 202 yX7_read, Cond.instanceMethod yX7_read, Cond.selects RX7 yX7_read yX7_read]
def wsL_law0_r25 : List Cond := [Cond.code yX7_read cX7_read 3 (some .int), Cond.methodLink RL 74 yX9_track, Cond.instanceMethod yX9_track, Cond.selects RX9 yX9_track yX9_track, Cond.code yX9_track cX9_track 3 (some .int), Cond.methodLink RL 75 yX8_sign, Cond.instanceMethod yX8_sign, Cond.selects RX8 yX8_sign yX8_sign, Cond.code yX8_sign cX8_sign 3 (some .int), Cond.methodLink RX8 205 yX6_see, Cond.instanceMethod yX6_see, Cond.selects RX6 yX6_see yX6_see, Cond.code yX6_see cX6_see 5 (some .int), Cond.fieldLink RX6 23 "AssistRows$Signs" "taken" "I", Cond.methodLink RX6 15 yX6_weight, Cond.static yX6_weight, Cond.code yX6_weight cX6_weight 1 (some .int), Cond.methodLink RX6 19 yX6_take, Cond.instanceMethod yX6_take, Cond.selects RX6 yX6_take yX6_take, Cond.code yX6_take cX6_take 3 none, Cond.methodLink RL 78 yX9_sign, Cond.instanceMethod yX9_sign, Cond.selects RX9 yX9_sign yX9_sign]
def wsL_law0_r26 : List Cond := [Cond.code yX9_sign cX9_sign 4 (some .int), Cond.fieldLink RX9 161 "AssistRowsModel" "sign" "I", Cond.methodLink RL 79 yX8_hands, Cond.instanceMethod yX8_hands, Cond.selects RX8 yX8_hands yX8_hands, Cond.code yX8_hands cX8_hands 4 (some .int), Cond.methodLink RX8 208 yX1_tell, Cond.instanceMethod yX1_tell, Cond.selects RX1 yX1_tell yX1_tell, Cond.code yX1_tell cX1_tell 4 (some .boolean), Cond.methodLink RL 83 yX9_hands, Cond.instanceMethod yX9_hands, Cond.selects RX9 yX9_hands yX9_hands, Cond.code yX9_hands cX9_hands 4 (some .int), Cond.methodLink RL 84 yX8_handOver, Cond.instanceMethod yX8_handOver, Cond.selects RX8 yX8_handOver yX8_handOver, Cond.code yX8_handOver cX8_handOver 3 (some .int), Cond.methodLink RX8 211 yX1_ask, Cond.instanceMethod yX1_ask, Cond.selects RX1 yX1_ask yX1_ask, Cond.code yX1_ask cX1_ask 3 (some .boolean), Cond.methodLink RL 88 yX9_handOver, Cond.instanceMethod yX9_handOver]
def wsL_law0_r27 : List Cond := [Cond.selects RX9 yX9_handOver yX9_handOver, Cond.code yX9_handOver cX9_handOver 3 (some .int), Cond.methodLink RL 89 yX8_mode, Cond.instanceMethod yX8_mode, Cond.selects RX8 yX8_mode yX8_mode, Cond.code yX8_mode cX8_mode 1 (some .int), Cond.methodLink RL 92 yX9_mode, Cond.instanceMethod yX9_mode, Cond.selects RX9 yX9_mode yX9_mode, Cond.code yX9_mode cX9_mode 1 (some .int)]
def wsL_law0 : List Cond := (wsL_law0_r1 ++ (wsL_law0_r2 ++ (wsL_law0_r3 ++ (wsL_law0_r4 ++ (wsL_law0_r5 ++ (wsL_law0_r6 ++ (wsL_law0_r7 ++ (wsL_law0_r8 ++ (wsL_law0_r9 ++ (wsL_law0_r10 ++ (wsL_law0_r11 ++ (wsL_law0_r12 ++ (wsL_law0_r13 ++ (wsL_law0_r14 ++ (wsL_law0_r15 ++ (wsL_law0_r16 ++ (wsL_law0_r17 ++ (wsL_law0_r18 ++ (wsL_law0_r19 ++ (wsL_law0_r20 ++ (wsL_law0_r21 ++ (wsL_law0_r22 ++ (wsL_law0_r23 ++ (wsL_law0_r24 ++ (wsL_law0_r25 ++ (wsL_law0_r26 ++ wsL_law0_r27)))))))))))))))))))))))))) ++ wsX80 ++ wsX90 ++ wsX40 ++ wsX70 ++ wsX20 ++ wsX00 ++ wsX30 ++ wsX10 ++ wsX60 ++ wsX50 ++ ([] : List Cond)
def wsL_law : List Cond := wsL_law0 ++ (vx_atS RX8 194 "java/lang/ArithmeticException" ["java/lang/RuntimeException", "java/lang/Exception"]).filter goodWord
set_option maxRecDepth 20000 in
theorem wsL_law0_r1_in : ∀ w ∈ wsL_law0_r1, w ∈ lw_tbl := fun w h => (goodIn_p wsL_law0_r1 [46, 49] (by decide +kernel) (by decide +kernel) w h).1
set_option maxRecDepth 20000 in
theorem wsL_law0_r2_in : ∀ w ∈ wsL_law0_r2, w ∈ lw_tbl := fun w h => (goodIn_p wsL_law0_r2 [] (by decide +kernel) (by decide +kernel) w h).1
set_option maxRecDepth 20000 in
theorem wsL_law0_r3_in : ∀ w ∈ wsL_law0_r3, w ∈ lw_tbl := fun w h => (goodIn_p wsL_law0_r3 [54, 82] (by decide +kernel) (by decide +kernel) w h).1
set_option maxRecDepth 20000 in
theorem wsL_law0_r4_in : ∀ w ∈ wsL_law0_r4, w ∈ lw_tbl := fun w h => (goodIn_p wsL_law0_r4 [88, 153, 172, 190, 216] (by decide +kernel) (by decide +kernel) w h).1
set_option maxRecDepth 20000 in
theorem wsL_law0_r5_in : ∀ w ∈ wsL_law0_r5, w ∈ lw_tbl := fun w h => (goodIn_p wsL_law0_r5 [240, 643] (by decide +kernel) (by decide +kernel) w h).1
set_option maxRecDepth 20000 in
theorem wsL_law0_r6_in : ∀ w ∈ wsL_law0_r6, w ∈ lw_tbl := fun w h => (goodIn_p wsL_law0_r6 [305] (by decide +kernel) (by decide +kernel) w h).1
set_option maxRecDepth 20000 in
theorem wsL_law0_r7_in : ∀ w ∈ wsL_law0_r7, w ∈ lw_tbl := fun w h => (goodIn_p wsL_law0_r7 [309, 317, 322, 789] (by decide +kernel) (by decide +kernel) w h).1
set_option maxRecDepth 20000 in
theorem wsL_law0_r8_in : ∀ w ∈ wsL_law0_r8, w ∈ lw_tbl := fun w h => (goodIn_p wsL_law0_r8 [793, 326, 802] (by decide +kernel) (by decide +kernel) w h).1
set_option maxRecDepth 20000 in
theorem wsL_law0_r9_in : ∀ w ∈ wsL_law0_r9, w ∈ lw_tbl := fun w h => (goodIn_p wsL_law0_r9 [334, 338, 342] (by decide +kernel) (by decide +kernel) w h).1
set_option maxRecDepth 20000 in
theorem wsL_law0_r10_in : ∀ w ∈ wsL_law0_r10, w ∈ lw_tbl := fun w h => (goodIn_p wsL_law0_r10 [346, 350, 354] (by decide +kernel) (by decide +kernel) w h).1
set_option maxRecDepth 20000 in
theorem wsL_law0_r11_in : ∀ w ∈ wsL_law0_r11, w ∈ lw_tbl := fun w h => (goodIn_p wsL_law0_r11 [358, 362, 365, 371, 375, 379] (by decide +kernel) (by decide +kernel) w h).1
set_option maxRecDepth 20000 in
theorem wsL_law0_r12_in : ∀ w ∈ wsL_law0_r12, w ∈ lw_tbl := fun w h => (goodIn_p wsL_law0_r12 [385, 389, 393, 398, 402] (by decide +kernel) (by decide +kernel) w h).1
set_option maxRecDepth 20000 in
theorem wsL_law0_r13_in : ∀ w ∈ wsL_law0_r13, w ∈ lw_tbl := fun w h => (goodIn_p wsL_law0_r13 [408, 413, 418, 425] (by decide +kernel) (by decide +kernel) w h).1
set_option maxRecDepth 20000 in
theorem wsL_law0_r14_in : ∀ w ∈ wsL_law0_r14, w ∈ lw_tbl := fun w h => (goodIn_p wsL_law0_r14 [429, 433, 439] (by decide +kernel) (by decide +kernel) w h).1
set_option maxRecDepth 20000 in
theorem wsL_law0_r15_in : ∀ w ∈ wsL_law0_r15, w ∈ lw_tbl := fun w h => (goodIn_p wsL_law0_r15 [445, 449] (by decide +kernel) (by decide +kernel) w h).1
set_option maxRecDepth 20000 in
theorem wsL_law0_r16_in : ∀ w ∈ wsL_law0_r16, w ∈ lw_tbl := fun w h => (goodIn_p wsL_law0_r16 [456, 461, 464, 472, 480, 833] (by decide +kernel) (by decide +kernel) w h).1
set_option maxRecDepth 20000 in
theorem wsL_law0_r17_in : ∀ w ∈ wsL_law0_r17, w ∈ lw_tbl := fun w h => (goodIn_p wsL_law0_r17 [837, 841, 845, 849] (by decide +kernel) (by decide +kernel) w h).1
set_option maxRecDepth 20000 in
theorem wsL_law0_r18_in : ∀ w ∈ wsL_law0_r18, w ∈ lw_tbl := fun w h => (goodIn_p wsL_law0_r18 [852, 856, 862, 866, 870, 875] (by decide +kernel) (by decide +kernel) w h).1
set_option maxRecDepth 20000 in
theorem wsL_law0_r19_in : ∀ w ∈ wsL_law0_r19, w ∈ lw_tbl := fun w h => (goodIn_p wsL_law0_r19 [880, 888, 892] (by decide +kernel) (by decide +kernel) w h).1
set_option maxRecDepth 20000 in
theorem wsL_law0_r20_in : ∀ w ∈ wsL_law0_r20, w ∈ lw_tbl := fun w h => (goodIn_p wsL_law0_r20 [898, 903, 909] (by decide +kernel) (by decide +kernel) w h).1
set_option maxRecDepth 20000 in
theorem wsL_law0_r21_in : ∀ w ∈ wsL_law0_r21, w ∈ lw_tbl := fun w h => (goodIn_p wsL_law0_r21 [916, 485, 488, 923, 926, 492] (by decide +kernel) (by decide +kernel) w h).1
set_option maxRecDepth 20000 in
theorem wsL_law0_r22_in : ∀ w ∈ wsL_law0_r22, w ∈ lw_tbl := fun w h => (goodIn_p wsL_law0_r22 [930, 496, 938, 572] (by decide +kernel) (by decide +kernel) w h).1
set_option maxRecDepth 20000 in
theorem wsL_law0_r23_in : ∀ w ∈ wsL_law0_r23, w ∈ lw_tbl := fun w h => (goodIn_p wsL_law0_r23 [942, 785, 500, 504, 810] (by decide +kernel) (by decide +kernel) w h).1
set_option maxRecDepth 20000 in
theorem wsL_law0_r24_in : ∀ w ∈ wsL_law0_r24, w ∈ lw_tbl := fun w h => (goodIn_p wsL_law0_r24 [510, 514, 517, 814, 525] (by decide +kernel) (by decide +kernel) w h).1
set_option maxRecDepth 20000 in
theorem wsL_law0_r25_in : ∀ w ∈ wsL_law0_r25, w ∈ lw_tbl := fun w h => (goodIn_p wsL_law0_r25 [529, 946, 533, 537, 540, 544] (by decide +kernel) (by decide +kernel) w h).1
set_option maxRecDepth 20000 in
theorem wsL_law0_r26_in : ∀ w ∈ wsL_law0_r26, w ∈ lw_tbl := fun w h => (goodIn_p wsL_law0_r26 [829, 548, 552, 821, 556, 560] (by decide +kernel) (by decide +kernel) w h).1
set_option maxRecDepth 20000 in
theorem wsL_law0_r27_in : ∀ w ∈ wsL_law0_r27, w ∈ lw_tbl := fun w h => (goodIn_p wsL_law0_r27 [825, 564, 934] (by decide +kernel) (by decide +kernel) w h).1
set_option maxRecDepth 20000 in
theorem wsX80_in : ∀ w ∈ wsX80, w ∈ lw_tbl := by decide +kernel
set_option maxRecDepth 20000 in
theorem wsX90_in : ∀ w ∈ wsX90, w ∈ lw_tbl := by decide +kernel
set_option maxRecDepth 20000 in
theorem wsX40_in : ∀ w ∈ wsX40, w ∈ lw_tbl := by decide +kernel
set_option maxRecDepth 20000 in
theorem wsX70_in : ∀ w ∈ wsX70, w ∈ lw_tbl := by decide +kernel
set_option maxRecDepth 20000 in
theorem wsX20_in : ∀ w ∈ wsX20, w ∈ lw_tbl := by decide +kernel
set_option maxRecDepth 20000 in
theorem wsX00_in : ∀ w ∈ wsX00, w ∈ lw_tbl := by decide +kernel
set_option maxRecDepth 20000 in
theorem wsX30_in : ∀ w ∈ wsX30, w ∈ lw_tbl := by decide +kernel
set_option maxRecDepth 20000 in
theorem wsX10_in : ∀ w ∈ wsX10, w ∈ lw_tbl := by decide +kernel
set_option maxRecDepth 20000 in
theorem wsX60_in : ∀ w ∈ wsX60, w ∈ lw_tbl := by decide +kernel
set_option maxRecDepth 20000 in
theorem wsX50_in : ∀ w ∈ wsX50, w ∈ lw_tbl := by decide +kernel
theorem wsL_law_in0 : ∀ w ∈ wsL_law0, w ∈ lw_tbl := fun w h => (List.mem_append.mp h).elim (fun h => (List.mem_append.mp h).elim (fun h => (List.mem_append.mp h).elim (fun h => (List.mem_append.mp h).elim (fun h => (List.mem_append.mp h).elim (fun h => (List.mem_append.mp h).elim (fun h => (List.mem_append.mp h).elim (fun h => (List.mem_append.mp h).elim (fun h => (List.mem_append.mp h).elim (fun h => (List.mem_append.mp h).elim (fun h => (List.mem_append.mp h).elim (fun h => (List.mem_append.mp h).elim (wsL_law0_r1_in w) (fun h => (List.mem_append.mp h).elim (wsL_law0_r2_in w) (fun h => (List.mem_append.mp h).elim (wsL_law0_r3_in w) (fun h => (List.mem_append.mp h).elim (wsL_law0_r4_in w) (fun h => (List.mem_append.mp h).elim (wsL_law0_r5_in w) (fun h => (List.mem_append.mp h).elim (wsL_law0_r6_in w) (fun h => (List.mem_append.mp h).elim (wsL_law0_r7_in w) (fun h => (List.mem_append.mp h).elim (wsL_law0_r8_in w) (fun h => (List.mem_append.mp h).elim (wsL_law0_r9_in w) (fun h => (List.mem_append.mp h).elim (wsL_law0_r10_in w) (fun h => (List.mem_append.mp h).elim (wsL_law0_r11_in w) (fun h => (List.mem_append.mp h).elim (wsL_law0_r12_in w) (fun h => (List.mem_append.mp h).elim (wsL_law0_r13_in w) (fun h => (List.mem_append.mp h).elim (wsL_law0_r14_in w) (fun h => (List.mem_append.mp h).elim (wsL_law0_r15_in w) (fun h => (List.mem_append.mp h).elim (wsL_law0_r16_in w) (fun h => (List.mem_append.mp h).elim (wsL_law0_r17_in w) (fun h => (List.mem_append.mp h).elim (wsL_law0_r18_in w) (fun h => (List.mem_append.mp h).elim (wsL_law0_r19_in w) (fun h => (List.mem_append.mp h).elim (wsL_law0_r20_in w) (fun h => (List.mem_append.mp h).elim (wsL_law0_r21_in w) (fun h => (List.mem_append.mp h).elim (wsL_law0_r22_in w) (fun h => (List.mem_append.mp h).elim (wsL_law0_r23_in w) (fun h => (List.mem_append.mp h).elim (wsL_law0_r24_in w) (fun h => (List.mem_append.mp h).elim (wsL_law0_r25_in w) (fun h => (List.mem_append.mp h).elim (wsL_law0_r26_in w) (fun h => wsL_law0_r27_in w h))))))))))))))))))))))))))) (wsX80_in w)) (wsX90_in w)) (wsX40_in w)) (wsX70_in w)) (wsX20_in w)) (wsX00_in w)) (wsX30_in w)) (wsX10_in w)) (wsX60_in w)) (wsX50_in w)) (fun h => absurd h List.not_mem_nil)
theorem wsL_law_x0 : ∀ w ∈ (vx_atS RX8 194 "java/lang/ArithmeticException" ["java/lang/RuntimeException", "java/lang/Exception"]).filter goodWord, w ∈ lw_tbl := by decide +kernel
theorem wsL_law_in : ∀ w ∈ wsL_law, w ∈ lw_tbl := fun w h => (List.mem_append.mp h).elim (fun h => wsL_law_in0 w h) (fun h => wsL_law_x0 w h)
theorem inlX0 : ∀ w ∈ wsX00, w ∈ wsL_law := fun _ h => List.mem_append_left _ (List.mem_append_left _ (List.mem_append_left _ (List.mem_append_left _ (List.mem_append_left _ (List.mem_append_left _ (List.mem_append_right _ h))))))
theorem inX0 : ∀ w ∈ wsX00, w ∈ lw_tbl := fun w h => wsL_law_in w (inlX0 w h)
theorem inlX1 : ∀ w ∈ wsX10, w ∈ wsL_law := fun _ h => List.mem_append_left _ (List.mem_append_left _ (List.mem_append_left _ (List.mem_append_left _ (List.mem_append_right _ h))))
theorem inX1 : ∀ w ∈ wsX10, w ∈ lw_tbl := fun w h => wsL_law_in w (inlX1 w h)
theorem inlX2 : ∀ w ∈ wsX20, w ∈ wsL_law := fun _ h => List.mem_append_left _ (List.mem_append_left _ (List.mem_append_left _ (List.mem_append_left _ (List.mem_append_left _ (List.mem_append_left _ (List.mem_append_left _ (List.mem_append_right _ h)))))))
theorem inX2 : ∀ w ∈ wsX20, w ∈ lw_tbl := fun w h => wsL_law_in w (inlX2 w h)
theorem inlX3 : ∀ w ∈ wsX30, w ∈ wsL_law := fun _ h => List.mem_append_left _ (List.mem_append_left _ (List.mem_append_left _ (List.mem_append_left _ (List.mem_append_left _ (List.mem_append_right _ h)))))
theorem inX3 : ∀ w ∈ wsX30, w ∈ lw_tbl := fun w h => wsL_law_in w (inlX3 w h)
theorem inlX4 : ∀ w ∈ wsX40, w ∈ wsL_law := fun _ h => List.mem_append_left _ (List.mem_append_left _ (List.mem_append_left _ (List.mem_append_left _ (List.mem_append_left _ (List.mem_append_left _ (List.mem_append_left _ (List.mem_append_left _ (List.mem_append_left _ (List.mem_append_right _ h)))))))))
theorem inX4 : ∀ w ∈ wsX40, w ∈ lw_tbl := fun w h => wsL_law_in w (inlX4 w h)
theorem inlX5 : ∀ w ∈ wsX50, w ∈ wsL_law := fun _ h => List.mem_append_left _ (List.mem_append_left _ (List.mem_append_right _ h))
theorem inX5 : ∀ w ∈ wsX50, w ∈ lw_tbl := fun w h => wsL_law_in w (inlX5 w h)
theorem inlX6 : ∀ w ∈ wsX60, w ∈ wsL_law := fun _ h => List.mem_append_left _ (List.mem_append_left _ (List.mem_append_left _ (List.mem_append_right _ h)))
theorem inX6 : ∀ w ∈ wsX60, w ∈ lw_tbl := fun w h => wsL_law_in w (inlX6 w h)
theorem inlX7 : ∀ w ∈ wsX70, w ∈ wsL_law := fun _ h => List.mem_append_left _ (List.mem_append_left _ (List.mem_append_left _ (List.mem_append_left _ (List.mem_append_left _ (List.mem_append_left _ (List.mem_append_left _ (List.mem_append_left _ (List.mem_append_right _ h))))))))
theorem inX7 : ∀ w ∈ wsX70, w ∈ lw_tbl := fun w h => wsL_law_in w (inlX7 w h)
theorem inlX8 : ∀ w ∈ wsX80, w ∈ wsL_law := fun _ h => List.mem_append_left _ (List.mem_append_left _ (List.mem_append_left _ (List.mem_append_left _ (List.mem_append_left _ (List.mem_append_left _ (List.mem_append_left _ (List.mem_append_left _ (List.mem_append_left _ (List.mem_append_left _ (List.mem_append_left _ (List.mem_append_right _ h)))))))))))
theorem inX8 : ∀ w ∈ wsX80, w ∈ lw_tbl := fun w h => wsL_law_in w (inlX8 w h)
theorem inlX9 : ∀ w ∈ wsX90, w ∈ wsL_law := fun _ h => List.mem_append_left _ (List.mem_append_left _ (List.mem_append_left _ (List.mem_append_left _ (List.mem_append_left _ (List.mem_append_left _ (List.mem_append_left _ (List.mem_append_left _ (List.mem_append_left _ (List.mem_append_left _ (List.mem_append_right _ h))))))))))
theorem inX9 : ∀ w ∈ wsX90, w ∈ lw_tbl := fun w h => wsL_law_in w (inlX9 w h)
theorem inJ0 : ∀ w ∈ wsJ00, w ∈ lw_tbl := by decide +kernel
