def RX0 : String := "LiftDesk$Badge"
def TX0 : u_T := fun k => match k with
  | 0 => ("LiftDesk$Badge", "tenant", "I", true)
  | _ => ("LiftDesk$Badge", "isRevoked", "Z", false)
def tyX0 : Nat → FieldType := fun k => match k with
  | 0 => .int
  | _ => .boolean
abbrev wsX00 : List Cond := u_ws RX0 TX0 2
theorem nmX0 : ∀ a, a < 2 → ∀ b, b < 2 → a ≠ b → (TX0 a).2.1 ≠ (TX0 b).2.1 := by decide +kernel
theorem tyX0_ok : ∀ k, k < 2 → parseFieldDescriptor (TX0 k).2.2.1 = some (tyX0 k) := by decide +kernel
abbrev cX0_init : ByteArray := prog_2_method_1_code
def yX0_init : MethodName := ⟨RX0, "<init>", "(I)V"⟩
def RX1 : String := "LiftDesk$Entry"
def TX1 : u_T := fun k => match k with
  | 0 => ("LiftDesk$Entry", "rider", "I", true)
  | 1 => ("LiftDesk$Entry", "state", "C", true)
  | _ => ("LiftDesk$Entry", "time", "I", true)
def tyX1 : Nat → FieldType := fun k => match k with
  | 0 => .int
  | 1 => .char
  | _ => .int
abbrev wsX10 : List Cond := u_ws RX1 TX1 3
theorem nmX1 : ∀ a, a < 3 → ∀ b, b < 3 → a ≠ b → (TX1 a).2.1 ≠ (TX1 b).2.1 := by decide +kernel
theorem tyX1_ok : ∀ k, k < 3 → parseFieldDescriptor (TX1 k).2.2.1 = some (tyX1 k) := by decide +kernel
abbrev cX1_init : ByteArray := prog_3_method_1_code
def yX1_init : MethodName := ⟨RX1, "<init>", "(ICI)V"⟩
def RX2 : String := "LiftDesk$Lift"
def TX2 : u_T := fun k => match k with
  | 0 => ("LiftDesk$Lift", "number", "I", true)
  | 1 => ("LiftDesk$Lift", "capacity", "I", true)
  | 2 => ("LiftDesk$Lift", "floor", "I", false)
  | 3 => ("LiftDesk$Lift", "isUp", "Z", false)
  | 4 => ("LiftDesk$Lift", "service", "C", false)
  | _ => ("LiftDesk$Lift", "cleaningLeft", "I", false)
def tyX2 : Nat → FieldType := fun k => match k with
  | 0 => .int
  | 1 => .int
  | 2 => .int
  | 3 => .boolean
  | 4 => .char
  | _ => .int
abbrev wsX20 : List Cond := u_ws RX2 TX2 6
theorem nmX2 : ∀ a, a < 6 → ∀ b, b < 6 → a ≠ b → (TX2 a).2.1 ≠ (TX2 b).2.1 := by decide +kernel
theorem tyX2_ok : ∀ k, k < 6 → parseFieldDescriptor (TX2 k).2.2.1 = some (tyX2 k) := by decide +kernel
abbrev cX2_init : ByteArray := prog_4_method_1_code
def yX2_init : MethodName := ⟨RX2, "<init>", "(II)V"⟩
abbrev cX2_cleanForOneTick : ByteArray := prog_4_method_2_code
def yX2_cleanForOneTick : MethodName := ⟨RX2, "cleanForOneTick", "()V"⟩
def RX3 : String := "LiftDesk$Rider"
def TX3 : u_T := fun k => match k with
  | 0 => ("LiftDesk$Rider", "number", "I", true)
  | 1 => ("LiftDesk$Rider", "badge", "LLiftDesk$Badge;", true)
  | 2 => ("LiftDesk$Rider", "floor", "I", false)
  | 3 => ("LiftDesk$Rider", "aim", "I", false)
  | 4 => ("LiftDesk$Rider", "state", "C", false)
  | 5 => ("LiftDesk$Rider", "lift", "LLiftDesk$Lift;", false)
  | _ => ("LiftDesk$Rider", "waited", "I", false)
def tyX3 : Nat → FieldType := fun k => match k with
  | 0 => .int
  | 1 => .object "LiftDesk$Badge"
  | 2 => .int
  | 3 => .int
  | 4 => .char
  | 5 => .object "LiftDesk$Lift"
  | _ => .int
abbrev wsX30 : List Cond := u_ws RX3 TX3 7
theorem nmX3 : ∀ a, a < 7 → ∀ b, b < 7 → a ≠ b → (TX3 a).2.1 ≠ (TX3 b).2.1 := by decide +kernel
theorem tyX3_ok : ∀ k, k < 7 → parseFieldDescriptor (TX3 k).2.2.1 = some (tyX3 k) := by decide +kernel
abbrev cX3_init : ByteArray := prog_5_method_1_code
def yX3_init : MethodName := ⟨RX3, "<init>", "(ILLiftDesk$Badge;II)V"⟩
abbrev cX3_isIn : ByteArray := prog_5_method_2_code
def yX3_isIn : MethodName := ⟨RX3, "isIn", "(LLiftDesk$Lift;)Z"⟩
abbrev cX3_waitsFor : ByteArray := prog_5_method_3_code
def yX3_waitsFor : MethodName := ⟨RX3, "waitsFor", "(LLiftDesk$Lift;)Z"⟩
def RX4 : String := "LiftDesk"
def TX4 : u_T := fun k => match k with
  | 0 => ("LiftDesk", "tenants", "[I", true)
  | 1 => ("LiftDesk", "firstTimes", "[I", true)
  | 2 => ("LiftDesk", "endTimes", "[I", true)
  | 3 => ("LiftDesk", "badges", "Ljava/util/ArrayList;", true)
  | 4 => ("LiftDesk", "lifts", "Ljava/util/ArrayList;", true)
  | 5 => ("LiftDesk", "riders", "Ljava/util/ArrayList;", true)
  | 6 => ("LiftDesk", "present", "Ljava/util/ArrayList;", true)
  | 7 => ("LiftDesk", "log", "Ljava/util/ArrayList;", true)
  | 8 => ("LiftDesk", "now", "I", false)
  | 9 => ("LiftDesk", "alarmFloor", "I", false)
  | 10 => ("LiftDesk", "openings", "I", false)
  | _ => ("LiftDesk", "refusals", "I", false)
def tyX4 : Nat → FieldType := fun k => match k with
  | 0 => .array .int
  | 1 => .array .int
  | 2 => .array .int
  | 3 => .object "java/util/ArrayList"
  | 4 => .object "java/util/ArrayList"
  | 5 => .object "java/util/ArrayList"
  | 6 => .object "java/util/ArrayList"
  | 7 => .object "java/util/ArrayList"
  | 8 => .int
  | 9 => .int
  | 10 => .int
  | _ => .int
abbrev wsX40 : List Cond := u_ws RX4 TX4 12
theorem nmX4 : ∀ a, a < 12 → ∀ b, b < 12 → a ≠ b → (TX4 a).2.1 ≠ (TX4 b).2.1 := by decide +kernel
theorem tyX4_ok : ∀ k, k < 12 → parseFieldDescriptor (TX4 k).2.2.1 = some (tyX4 k) := by decide +kernel
abbrev cX4_init : ByteArray := prog_1_method_1_code
def yX4_init : MethodName := ⟨RX4, "<init>", "()V"⟩
abbrev cX4_addLift : ByteArray := prog_1_method_2_code
def yX4_addLift : MethodName := ⟨RX4, "addLift", "(I)I"⟩
abbrev cX4_setTenant : ByteArray := prog_1_method_3_code
def yX4_setTenant : MethodName := ⟨RX4, "setTenant", "(II)I"⟩
abbrev cX4_setHours : ByteArray := prog_1_method_4_code
def yX4_setHours : MethodName := ⟨RX4, "setHours", "(III)I"⟩
abbrev cX4_addBadge : ByteArray := prog_1_method_5_code
def yX4_addBadge : MethodName := ⟨RX4, "addBadge", "(I)I"⟩
abbrev cX4_setRevoked : ByteArray := prog_1_method_6_code
def yX4_setRevoked : MethodName := ⟨RX4, "setRevoked", "(IZ)Z"⟩
abbrev cX4_reason : ByteArray := prog_1_method_7_code
def yX4_reason : MethodName := ⟨RX4, "reason", "(II)C"⟩
abbrev cX4_call : ByteArray := prog_1_method_8_code
def yX4_call : MethodName := ⟨RX4, "call", "(III)I"⟩
abbrev cX4_state : ByteArray := prog_1_method_9_code
def yX4_state : MethodName := ⟨RX4, "state", "(I)C"⟩
abbrev cX4_floorOf : ByteArray := prog_1_method_10_code
def yX4_floorOf : MethodName := ⟨RX4, "floorOf", "(I)I"⟩
abbrev cX4_aim : ByteArray := prog_1_method_11_code
def yX4_aim : MethodName := ⟨RX4, "aim", "(I)I"⟩
abbrev cX4_liftOf : ByteArray := prog_1_method_12_code
def yX4_liftOf : MethodName := ⟨RX4, "liftOf", "(I)I"⟩
abbrev cX4_waited : ByteArray := prog_1_method_13_code
def yX4_waited : MethodName := ⟨RX4, "waited", "(I)I"⟩
abbrev cX4_waitedByLog : ByteArray := prog_1_method_14_code
def yX4_waitedByLog : MethodName := ⟨RX4, "waitedByLog", "(I)I"⟩
abbrev cX4_entries : ByteArray := prog_1_method_15_code
def yX4_entries : MethodName := ⟨RX4, "entries", "()I"⟩
abbrev cX4_callOff : ByteArray := prog_1_method_16_code
def yX4_callOff : MethodName := ⟨RX4, "callOff", "(I)I"⟩
abbrev cX4_service : ByteArray := prog_1_method_17_code
def yX4_service : MethodName := ⟨RX4, "service", "(I)C"⟩
abbrev cX4_floorOfLift : ByteArray := prog_1_method_18_code
def yX4_floorOfLift : MethodName := ⟨RX4, "floorOfLift", "(I)I"⟩
abbrev cX4_isUp : ByteArray := prog_1_method_19_code
def yX4_isUp : MethodName := ⟨RX4, "isUp", "(I)Z"⟩
abbrev cX4_aboard : ByteArray := prog_1_method_20_code
def yX4_aboard : MethodName := ⟨RX4, "aboard", "(I)I"⟩
abbrev cX4_score : ByteArray := prog_1_method_21_code
def yX4_score : MethodName := ⟨RX4, "score", "(II)I"⟩
abbrev cX4_pass : ByteArray := prog_1_method_22_code
def yX4_pass : MethodName := ⟨RX4, "pass", "(I)I"⟩
abbrev cX4_time : ByteArray := prog_1_method_23_code
def yX4_time : MethodName := ⟨RX4, "time", "()I"⟩
abbrev cX4_alarm : ByteArray := prog_1_method_24_code
def yX4_alarm : MethodName := ⟨RX4, "alarm", "(I)I"⟩
abbrev cX4_isAlarm : ByteArray := prog_1_method_25_code
def yX4_isAlarm : MethodName := ⟨RX4, "isAlarm", "()Z"⟩
abbrev cX4_turn : ByteArray := prog_1_method_26_code
def yX4_turn : MethodName := ⟨RX4, "turn", "()I"⟩
abbrev cX4_opened : ByteArray := prog_1_method_27_code
def yX4_opened : MethodName := ⟨RX4, "opened", "()I"⟩
abbrev cX4_refused : ByteArray := prog_1_method_28_code
def yX4_refused : MethodName := ⟨RX4, "refused", "()I"⟩
abbrev cX4_doneShare : ByteArray := prog_1_method_29_code
def yX4_doneShare : MethodName := ⟨RX4, "doneShare", "()F"⟩
abbrev cX4_meanWait : ByteArray := prog_1_method_30_code
def yX4_meanWait : MethodName := ⟨RX4, "meanWait", "()D"⟩
abbrev cX4_badgeNumbered : ByteArray := prog_1_method_31_code
def yX4_badgeNumbered : MethodName := ⟨RX4, "badgeNumbered", "(I)LLiftDesk$Badge;"⟩
abbrev cX4_riderNumbered : ByteArray := prog_1_method_32_code
def yX4_riderNumbered : MethodName := ⟨RX4, "riderNumbered", "(I)LLiftDesk$Rider;"⟩
abbrev cX4_liftNumbered : ByteArray := prog_1_method_33_code
def yX4_liftNumbered : MethodName := ⟨RX4, "liftNumbered", "(I)LLiftDesk$Lift;"⟩
abbrev cX4_checkFloor : ByteArray := prog_1_method_34_code
def yX4_checkFloor : MethodName := ⟨RX4, "checkFloor", "(I)V"⟩
abbrev cX4_whyNot : ByteArray := prog_1_method_35_code
def yX4_whyNot : MethodName := ⟨RX4, "whyNot", "(LLiftDesk$Badge;I)C"⟩
abbrev cX4_hasRider : ByteArray := prog_1_method_36_code
def yX4_hasRider : MethodName := ⟨RX4, "hasRider", "(LLiftDesk$Badge;)Z"⟩
abbrev cX4_countAboard : ByteArray := prog_1_method_37_code
def yX4_countAboard : MethodName := ⟨RX4, "countAboard", "(LLiftDesk$Lift;)I"⟩
abbrev cX4_hasRoom : ByteArray := prog_1_method_38_code
def yX4_hasRoom : MethodName := ⟨RX4, "hasRoom", "(LLiftDesk$Lift;)Z"⟩
abbrev cX4_note : ByteArray := prog_1_method_39_code
def yX4_note : MethodName := ⟨RX4, "note", "(LLiftDesk$Rider;)V"⟩
abbrev cX4_ticksByLog : ByteArray := prog_1_method_40_code
def yX4_ticksByLog : MethodName := ⟨RX4, "ticksByLog", "(LLiftDesk$Rider;)I"⟩
abbrev cX4_goAboard : ByteArray := prog_1_method_41_code
def yX4_goAboard : MethodName := ⟨RX4, "goAboard", "(LLiftDesk$Rider;)V"⟩
abbrev cX4_finish : ByteArray := prog_1_method_42_code
def yX4_finish : MethodName := ⟨RX4, "finish", "(LLiftDesk$Rider;I)V"⟩
abbrev cX4_scoreOf : ByteArray := prog_1_method_43_code
def yX4_scoreOf : MethodName := ⟨RX4, "scoreOf", "(LLiftDesk$Lift;I)I"⟩
abbrev cX4_giveLift : ByteArray := prog_1_method_44_code
def yX4_giveLift : MethodName := ⟨RX4, "giveLift", "(LLiftDesk$Rider;)V"⟩
abbrev cX4_giveLiftsToAll : ByteArray := prog_1_method_45_code
def yX4_giveLiftsToAll : MethodName := ⟨RX4, "giveLiftsToAll", "()V"⟩
abbrev cX4_giveLiftsInTurn : ByteArray := prog_1_method_46_code
def yX4_giveLiftsInTurn : MethodName := ⟨RX4, "giveLiftsInTurn", "()V"⟩
abbrev cX4_loseLift : ByteArray := prog_1_method_47_code
def yX4_loseLift : MethodName := ⟨RX4, "loseLift", "(LLiftDesk$Lift;)I"⟩
abbrev cX4_passOneTick : ByteArray := prog_1_method_48_code
def yX4_passOneTick : MethodName := ⟨RX4, "passOneTick", "()V"⟩
abbrev cX4_countWaiting : ByteArray := prog_1_method_49_code
def yX4_countWaiting : MethodName := ⟨RX4, "countWaiting", "()V"⟩
abbrev cX4_runLift : ByteArray := prog_1_method_50_code
def yX4_runLift : MethodName := ⟨RX4, "runLift", "(LLiftDesk$Lift;)V"⟩
abbrev cX4_letOut : ByteArray := prog_1_method_51_code
def yX4_letOut : MethodName := ⟨RX4, "letOut", "(LLiftDesk$Lift;)Z"⟩
abbrev cX4_letIn : ByteArray := prog_1_method_52_code
def yX4_letIn : MethodName := ⟨RX4, "letIn", "(LLiftDesk$Lift;)Z"⟩
abbrev cX4_move : ByteArray := prog_1_method_53_code
def yX4_move : MethodName := ⟨RX4, "move", "(LLiftDesk$Lift;)V"⟩
abbrev cX4_hasAimTowards : ByteArray := prog_1_method_54_code
def yX4_hasAimTowards : MethodName := ⟨RX4, "hasAimTowards", "(LLiftDesk$Lift;IZ)Z"⟩
abbrev cX4_sendAllToLobby : ByteArray := prog_1_method_55_code
def yX4_sendAllToLobby : MethodName := ⟨RX4, "sendAllToLobby", "()V"⟩
abbrev cX4_floorInTurn : ByteArray := prog_1_method_56_code
def yX4_floorInTurn : MethodName := ⟨RX4, "floorInTurn", "()I"⟩
abbrev cX4_isWaitedOn : ByteArray := prog_1_method_57_code
def yX4_isWaitedOn : MethodName := ⟨RX4, "isWaitedOn", "(I)Z"⟩
def RX5 : String := "LiftDeskModel"
def TX5 : u_T := fun k => match k with
  | 0 => ("LiftDeskModel", "thrown", "I", false)
  | 1 => ("LiftDeskModel", "tenants", "[I", true)
  | 2 => ("LiftDeskModel", "opens", "[I", true)
  | 3 => ("LiftDeskModel", "closes", "[I", true)
  | 4 => ("LiftDeskModel", "badgeTenants", "[I", true)
  | 5 => ("LiftDeskModel", "isRevoked", "[Z", true)
  | 6 => ("LiftDeskModel", "badges", "I", false)
  | 7 => ("LiftDeskModel", "badgeOf", "[I", true)
  | 8 => ("LiftDeskModel", "at", "[I", true)
  | 9 => ("LiftDeskModel", "aims", "[I", true)
  | 10 => ("LiftDeskModel", "lifts", "[I", true)
  | 11 => ("LiftDeskModel", "calledAt", "[I", true)
  | 12 => ("LiftDeskModel", "wentAt", "[I", true)
  | 13 => ("LiftDeskModel", "states", "[C", true)
  | 14 => ("LiftDeskModel", "riders", "I", false)
  | 15 => ("LiftDeskModel", "entries", "I", false)
  | 16 => ("LiftDeskModel", "done", "I", false)
  | 17 => ("LiftDeskModel", "rooms", "[I", true)
  | 18 => ("LiftDeskModel", "where", "[I", true)
  | 19 => ("LiftDeskModel", "left", "[I", true)
  | 20 => ("LiftDeskModel", "services", "[C", true)
  | 21 => ("LiftDeskModel", "isUp", "[Z", true)
  | 22 => ("LiftDeskModel", "liftMany", "I", false)
  | 23 => ("LiftDeskModel", "time", "I", false)
  | 24 => ("LiftDeskModel", "opened", "I", false)
  | 25 => ("LiftDeskModel", "refused", "I", false)
  | 26 => ("LiftDeskModel", "alarmFloor", "I", false)
  | _ => ("LiftDeskModel", "isAlarm", "Z", false)
def tyX5 : Nat → FieldType := fun k => match k with
  | 0 => .int
  | 1 => .array .int
  | 2 => .array .int
  | 3 => .array .int
  | 4 => .array .int
  | 5 => .array .boolean
  | 6 => .int
  | 7 => .array .int
  | 8 => .array .int
  | 9 => .array .int
  | 10 => .array .int
  | 11 => .array .int
  | 12 => .array .int
  | 13 => .array .char
  | 14 => .int
  | 15 => .int
  | 16 => .int
  | 17 => .array .int
  | 18 => .array .int
  | 19 => .array .int
  | 20 => .array .char
  | 21 => .array .boolean
  | 22 => .int
  | 23 => .int
  | 24 => .int
  | 25 => .int
  | 26 => .int
  | _ => .boolean
abbrev wsX50 : List Cond := u_ws RX5 TX5 28
theorem nmX5 : ∀ a, a < 28 → ∀ b, b < 28 → a ≠ b → (TX5 a).2.1 ≠ (TX5 b).2.1 := by decide +kernel
theorem tyX5_ok : ∀ k, k < 28 → parseFieldDescriptor (TX5 k).2.2.1 = some (tyX5 k) := by decide +kernel
abbrev cX5_thrown : ByteArray := prog_7_method_1_code
def yX5_thrown : MethodName := ⟨RX5, "thrown", "()I"⟩
abbrev cX5_fails : ByteArray := prog_7_method_2_code
def yX5_fails : MethodName := ⟨RX5, "fails", "(I)I"⟩
abbrev cX5_isWrong : ByteArray := prog_7_method_3_code
def yX5_isWrong : MethodName := ⟨RX5, "isWrong", "(I)Z"⟩
abbrev cX5_isBetween : ByteArray := prog_7_method_4_code
def yX5_isBetween : MethodName := ⟨RX5, "isBetween", "(III)Z"⟩
abbrev cX5_isFloor : ByteArray := prog_7_method_5_code
def yX5_isFloor : MethodName := ⟨RX5, "isFloor", "(I)Z"⟩
abbrev cX5_init : ByteArray := prog_7_method_6_code
def yX5_init : MethodName := ⟨RX5, "<init>", "()V"⟩
abbrev cX5_isBadge : ByteArray := prog_7_method_7_code
def yX5_isBadge : MethodName := ⟨RX5, "isBadge", "(I)Z"⟩
abbrev cX5_isRider : ByteArray := prog_7_method_8_code
def yX5_isRider : MethodName := ⟨RX5, "isRider", "(I)Z"⟩
abbrev cX5_isLift : ByteArray := prog_7_method_9_code
def yX5_isLift : MethodName := ⟨RX5, "isLift", "(I)Z"⟩
abbrev cX5_addLift : ByteArray := prog_7_method_10_code
def yX5_addLift : MethodName := ⟨RX5, "addLift", "(I)I"⟩
abbrev cX5_setTenant : ByteArray := prog_7_method_11_code
def yX5_setTenant : MethodName := ⟨RX5, "setTenant", "(II)I"⟩
abbrev cX5_setHours : ByteArray := prog_7_method_12_code
def yX5_setHours : MethodName := ⟨RX5, "setHours", "(III)I"⟩
abbrev cX5_addBadge : ByteArray := prog_7_method_13_code
def yX5_addBadge : MethodName := ⟨RX5, "addBadge", "(I)I"⟩
abbrev cX5_setRevoked : ByteArray := prog_7_method_14_code
def yX5_setRevoked : MethodName := ⟨RX5, "setRevoked", "(IZ)Z"⟩
abbrev cX5_why : ByteArray := prog_7_method_15_code
def yX5_why : MethodName := ⟨RX5, "why", "(II)C"⟩
abbrev cX5_reason : ByteArray := prog_7_method_16_code
def yX5_reason : MethodName := ⟨RX5, "reason", "(II)C"⟩
abbrev cX5_aboardMany : ByteArray := prog_7_method_17_code
def yX5_aboardMany : MethodName := ⟨RX5, "aboardMany", "(I)I"⟩
abbrev cX5_scoreOf : ByteArray := prog_7_method_18_code
def yX5_scoreOf : MethodName := ⟨RX5, "scoreOf", "(II)I"⟩
abbrev cX5_gives : ByteArray := prog_7_method_19_code
def yX5_gives : MethodName := ⟨RX5, "gives", "(I)V"⟩
abbrev cX5_ends : ByteArray := prog_7_method_20_code
def yX5_ends : MethodName := ⟨RX5, "ends", "(II)V"⟩
abbrev cX5_isOut : ByteArray := prog_7_method_21_code
def yX5_isOut : MethodName := ⟨RX5, "isOut", "(I)Z"⟩
abbrev cX5_call : ByteArray := prog_7_method_22_code
def yX5_call : MethodName := ⟨RX5, "call", "(III)I"⟩
abbrev cX5_isNobody : ByteArray := prog_7_method_23_code
def yX5_isNobody : MethodName := ⟨RX5, "isNobody", "(I)Z"⟩
abbrev cX5_state : ByteArray := prog_7_method_24_code
def yX5_state : MethodName := ⟨RX5, "state", "(I)C"⟩
abbrev cX5_floorOf : ByteArray := prog_7_method_25_code
def yX5_floorOf : MethodName := ⟨RX5, "floorOf", "(I)I"⟩
abbrev cX5_aim : ByteArray := prog_7_method_26_code
def yX5_aim : MethodName := ⟨RX5, "aim", "(I)I"⟩
abbrev cX5_liftOf : ByteArray := prog_7_method_27_code
def yX5_liftOf : MethodName := ⟨RX5, "liftOf", "(I)I"⟩
abbrev cX5_waitedBy : ByteArray := prog_7_method_28_code
def yX5_waitedBy : MethodName := ⟨RX5, "waitedBy", "(I)I"⟩
abbrev cX5_waited : ByteArray := prog_7_method_29_code
def yX5_waited : MethodName := ⟨RX5, "waited", "(I)I"⟩
abbrev cX5_waitedByLog : ByteArray := prog_7_method_30_code
def yX5_waitedByLog : MethodName := ⟨RX5, "waitedByLog", "(I)I"⟩
abbrev cX5_entries : ByteArray := prog_7_method_31_code
def yX5_entries : MethodName := ⟨RX5, "entries", "()I"⟩
abbrev cX5_frees : ByteArray := prog_7_method_32_code
def yX5_frees : MethodName := ⟨RX5, "frees", "(I)I"⟩
abbrev cX5_callOff : ByteArray := prog_7_method_33_code
def yX5_callOff : MethodName := ⟨RX5, "callOff", "(I)I"⟩
abbrev cX5_isNoLift : ByteArray := prog_7_method_34_code
def yX5_isNoLift : MethodName := ⟨RX5, "isNoLift", "(I)Z"⟩
abbrev cX5_service : ByteArray := prog_7_method_35_code
def yX5_service : MethodName := ⟨RX5, "service", "(I)C"⟩
abbrev cX5_floorOfLift : ByteArray := prog_7_method_36_code
def yX5_floorOfLift : MethodName := ⟨RX5, "floorOfLift", "(I)I"⟩
abbrev cX5_isUp : ByteArray := prog_7_method_37_code
def yX5_isUp : MethodName := ⟨RX5, "isUp", "(I)Z"⟩
abbrev cX5_aboard : ByteArray := prog_7_method_38_code
def yX5_aboard : MethodName := ⟨RX5, "aboard", "(I)I"⟩
abbrev cX5_score : ByteArray := prog_7_method_39_code
def yX5_score : MethodName := ⟨RX5, "score", "(II)I"⟩
abbrev cX5_opens : ByteArray := prog_7_method_40_code
def yX5_opens : MethodName := ⟨RX5, "opens", "(I)Z"⟩
abbrev cX5_isAim : ByteArray := prog_7_method_41_code
def yX5_isAim : MethodName := ⟨RX5, "isAim", "(III)Z"⟩
abbrev cX5_hasAim : ByteArray := prog_7_method_42_code
def yX5_hasAim : MethodName := ⟨RX5, "hasAim", "(III)Z"⟩
abbrev cX5_goes : ByteArray := prog_7_method_43_code
def yX5_goes : MethodName := ⟨RX5, "goes", "(I)V"⟩
abbrev cX5_works : ByteArray := prog_7_method_44_code
def yX5_works : MethodName := ⟨RX5, "works", "(I)V"⟩
abbrev cX5_isWaiting : ByteArray := prog_7_method_45_code
def yX5_isWaiting : MethodName := ⟨RX5, "isWaiting", "(I)Z"⟩
abbrev cX5_turnNow : ByteArray := prog_7_method_46_code
def yX5_turnNow : MethodName := ⟨RX5, "turnNow", "()I"⟩
abbrev cX5_outMany : ByteArray := prog_7_method_47_code
def yX5_outMany : MethodName := ⟨RX5, "outMany", "()I"⟩
abbrev cX5_passesOne : ByteArray := prog_7_method_48_code
def yX5_passesOne : MethodName := ⟨RX5, "passesOne", "()V"⟩
abbrev cX5_pass : ByteArray := prog_7_method_49_code
def yX5_pass : MethodName := ⟨RX5, "pass", "(I)I"⟩
abbrev cX5_time : ByteArray := prog_7_method_50_code
def yX5_time : MethodName := ⟨RX5, "time", "()I"⟩
abbrev cX5_alarm : ByteArray := prog_7_method_51_code
def yX5_alarm : MethodName := ⟨RX5, "alarm", "(I)I"⟩
abbrev cX5_isAlarm : ByteArray := prog_7_method_52_code
def yX5_isAlarm : MethodName := ⟨RX5, "isAlarm", "()Z"⟩
abbrev cX5_turn : ByteArray := prog_7_method_53_code
def yX5_turn : MethodName := ⟨RX5, "turn", "()I"⟩
abbrev cX5_opened : ByteArray := prog_7_method_54_code
def yX5_opened : MethodName := ⟨RX5, "opened", "()I"⟩
abbrev cX5_refused : ByteArray := prog_7_method_55_code
def yX5_refused : MethodName := ⟨RX5, "refused", "()I"⟩
abbrev cX5_doneShare : ByteArray := prog_7_method_56_code
def yX5_doneShare : MethodName := ⟨RX5, "doneShare", "()F"⟩
abbrev cX5_meanWait : ByteArray := prog_7_method_57_code
def yX5_meanWait : MethodName := ⟨RX5, "meanWait", "()D"⟩
def RJx145de : String := "java/io/Serializable"
def TJx145de : u_T := fun k => match k with
  | _ => ("", "", "", false)
def tyJx145de : Nat → FieldType := fun k => match k with
  | _ => .int
abbrev wsJx145de0 : List Cond := u_ws RJx145de TJx145de 0
theorem nmJx145de : ∀ a, a < 0 → ∀ b, b < 0 → a ≠ b → (TJx145de a).2.1 ≠ (TJx145de b).2.1 := by decide +kernel
theorem tyJx145de_ok : ∀ k, k < 0 → parseFieldDescriptor (TJx145de k).2.2.1 = some (tyJx145de k) := by decide +kernel
def RJx00060 : String := "java/lang/ArrayIndexOutOfBoundsException"
def TJx00060 : u_T := fun k => match k with
  | 0 => ("java/lang/Throwable", "backtrace", "Ljava/lang/Object;", false)
  | 1 => ("java/lang/Throwable", "detailMessage", "Ljava/lang/String;", false)
  | 2 => ("java/lang/Throwable", "cause", "Ljava/lang/Throwable;", false)
  | 3 => ("java/lang/Throwable", "stackTrace", "[Ljava/lang/StackTraceElement;", false)
  | 4 => ("java/lang/Throwable", "depth", "I", false)
  | _ => ("java/lang/Throwable", "suppressedExceptions", "Ljava/util/List;", false)
def tyJx00060 : Nat → FieldType := fun k => match k with
  | 0 => .object "java/lang/Object"
  | 1 => .object "java/lang/String"
  | 2 => .object "java/lang/Throwable"
  | 3 => .array (.object "java/lang/StackTraceElement")
  | 4 => .int
  | _ => .object "java/util/List"
abbrev wsJx000600 : List Cond := u_ws RJx00060 TJx00060 6
theorem nmJx00060 : ∀ a, a < 6 → ∀ b, b < 6 → a ≠ b → (TJx00060 a).2.1 ≠ (TJx00060 b).2.1 := by decide +kernel
theorem tyJx00060_ok : ∀ k, k < 6 → parseFieldDescriptor (TJx00060 k).2.2.1 = some (tyJx00060 k) := by decide +kernel
abbrev cJx00060_init_a7421 : ByteArray := prog_10_method_2_code
def yJx00060_init_a7421 : MethodName := ⟨RJx00060, "<init>", "(Ljava/lang/String;)V"⟩
def RJx8e188 : String := "java/lang/Cloneable"
def TJx8e188 : u_T := fun k => match k with
  | _ => ("", "", "", false)
def tyJx8e188 : Nat → FieldType := fun k => match k with
  | _ => .int
abbrev wsJx8e1880 : List Cond := u_ws RJx8e188 TJx8e188 0
theorem nmJx8e188 : ∀ a, a < 0 → ∀ b, b < 0 → a ≠ b → (TJx8e188 a).2.1 ≠ (TJx8e188 b).2.1 := by decide +kernel
theorem tyJx8e188_ok : ∀ k, k < 0 → parseFieldDescriptor (TJx8e188 k).2.2.1 = some (tyJx8e188 k) := by decide +kernel
def RJxab1ab : String := "java/lang/Iterable"
def TJxab1ab : u_T := fun k => match k with
  | _ => ("", "", "", false)
def tyJxab1ab : Nat → FieldType := fun k => match k with
  | _ => .int
abbrev wsJxab1ab0 : List Cond := u_ws RJxab1ab TJxab1ab 0
theorem nmJxab1ab : ∀ a, a < 0 → ∀ b, b < 0 → a ≠ b → (TJxab1ab a).2.1 ≠ (TJxab1ab b).2.1 := by decide +kernel
theorem tyJxab1ab_ok : ∀ k, k < 0 → parseFieldDescriptor (TJxab1ab k).2.2.1 = some (tyJxab1ab k) := by decide +kernel
def RJ9 : String := "java/lang/Math"
def TJ9 : u_T := fun k => match k with
  | _ => ("", "", "", false)
def tyJ9 : Nat → FieldType := fun k => match k with
  | _ => .int
abbrev wsJ90 : List Cond := u_ws RJ9 TJ9 0
theorem nmJ9 : ∀ a, a < 0 → ∀ b, b < 0 → a ≠ b → (TJ9 a).2.1 ≠ (TJ9 b).2.1 := by decide +kernel
theorem tyJ9_ok : ∀ k, k < 0 → parseFieldDescriptor (TJ9 k).2.2.1 = some (tyJ9 k) := by decide +kernel
abbrev cJ9_abs_0f7a4 : ByteArray := prog_17_method_59_code
def yJ9_abs_0f7a4 : MethodName := ⟨RJ9, "abs", "(I)I"⟩
abbrev cJ9_max_7cf53 : ByteArray := prog_17_method_65_code
def yJ9_max_7cf53 : MethodName := ⟨RJ9, "max", "(II)I"⟩
abbrev cJ9_min_7cf53 : ByteArray := prog_17_method_69_code
def yJ9_min_7cf53 : MethodName := ⟨RJ9, "min", "(II)I"⟩
def RJ0 : String := "java/lang/String"
def TJ0 : u_T := fun k => match k with
  | 0 => ("java/lang/String", "value", "[B", true)
  | _ => ("java/lang/String", "coder", "B", true)
def tyJ0 : Nat → FieldType := fun k => match k with
  | 0 => .array .byte
  | _ => .byte
abbrev wsJ00 : List Cond := u_ws RJ0 TJ0 2
theorem nmJ0 : ∀ a, a < 2 → ∀ b, b < 2 → a ≠ b → (TJ0 a).2.1 ≠ (TJ0 b).2.1 := by decide +kernel
theorem tyJ0_ok : ∀ k, k < 2 → parseFieldDescriptor (TJ0 k).2.2.1 = some (tyJ0 k) := by decide +kernel
def RJ10 : String := "java/lang/System"
def TJ10 : u_T := fun k => match k with
  | _ => ("", "", "", false)
def tyJ10 : Nat → FieldType := fun k => match k with
  | _ => .int
abbrev wsJ100 : List Cond := u_ws RJ10 TJ10 0
theorem nmJ10 : ∀ a, a < 0 → ∀ b, b < 0 → a ≠ b → (TJ10 a).2.1 ≠ (TJ10 b).2.1 := by decide +kernel
theorem tyJ10_ok : ∀ k, k < 0 → parseFieldDescriptor (TJ10 k).2.2.1 = some (tyJ10 k) := by decide +kernel
def RJxa1e45 : String := "java/util/AbstractCollection"
def TJxa1e45 : u_T := fun k => match k with
  | _ => ("", "", "", false)
def tyJxa1e45 : Nat → FieldType := fun k => match k with
  | _ => .int
abbrev wsJxa1e450 : List Cond := u_ws RJxa1e45 TJxa1e45 0
theorem nmJxa1e45 : ∀ a, a < 0 → ∀ b, b < 0 → a ≠ b → (TJxa1e45 a).2.1 ≠ (TJxa1e45 b).2.1 := by decide +kernel
theorem tyJxa1e45_ok : ∀ k, k < 0 → parseFieldDescriptor (TJxa1e45 k).2.2.1 = some (tyJxa1e45 k) := by decide +kernel
abbrev cJxa1e45_init_da8c8 : ByteArray := prog_23_method_1_code
def yJxa1e45_init_da8c8 : MethodName := ⟨RJxa1e45, "<init>", "()V"⟩
def RJxc12de : String := "java/util/AbstractList"
def TJxc12de : u_T := fun k => match k with
  | _ => ("", "", "", false)
def tyJxc12de : Nat → FieldType := fun k => match k with
  | _ => .int
abbrev wsJxc12de0 : List Cond := u_ws RJxc12de TJxc12de 0
theorem nmJxc12de : ∀ a, a < 0 → ∀ b, b < 0 → a ≠ b → (TJxc12de a).2.1 ≠ (TJxc12de b).2.1 := by decide +kernel
theorem tyJxc12de_ok : ∀ k, k < 0 → parseFieldDescriptor (TJxc12de k).2.2.1 = some (tyJxc12de k) := by decide +kernel
abbrev cJxc12de_init_da8c8 : ByteArray := prog_24_method_1_code
def yJxc12de_init_da8c8 : MethodName := ⟨RJxc12de, "<init>", "()V"⟩
def RJx4a65c : String := "java/util/ArrayList"
def TJx4a65c : u_T := fun k => match k with
  | 0 => ("java/util/AbstractList", "modCount", "I", false)
  | 1 => ("java/util/ArrayList", "elementData", "[Ljava/lang/Object;", false)
  | _ => ("java/util/ArrayList", "size", "I", false)
def tyJx4a65c : Nat → FieldType := fun k => match k with
  | 0 => .int
  | 1 => .array (.object "java/lang/Object")
  | _ => .int
abbrev wsJx4a65c0 : List Cond := u_ws RJx4a65c TJx4a65c 3
theorem nmJx4a65c : ∀ a, a < 3 → ∀ b, b < 3 → a ≠ b → (TJx4a65c a).2.1 ≠ (TJx4a65c b).2.1 := by decide +kernel
theorem tyJx4a65c_ok : ∀ k, k < 3 → parseFieldDescriptor (TJx4a65c k).2.2.1 = some (tyJx4a65c k) := by decide +kernel
abbrev cJx4a65c_init_da8c8 : ByteArray := prog_25_method_2_code
def yJx4a65c_init_da8c8 : MethodName := ⟨RJx4a65c, "<init>", "()V"⟩
abbrev cJx4a65c_grow_92f84 : ByteArray := prog_25_method_6_code
def yJx4a65c_grow_92f84 : MethodName := ⟨RJx4a65c, "grow", "(I)[Ljava/lang/Object;"⟩
abbrev cJx4a65c_grow_d5877 : ByteArray := prog_25_method_7_code
def yJx4a65c_grow_d5877 : MethodName := ⟨RJx4a65c, "grow", "()[Ljava/lang/Object;"⟩
abbrev cJx4a65c_size_8abf5 : ByteArray := prog_25_method_8_code
def yJx4a65c_size_8abf5 : MethodName := ⟨RJx4a65c, "size", "()I"⟩
abbrev cJx4a65c_isEmpty_aae02 : ByteArray := prog_25_method_9_code
def yJx4a65c_isEmpty_aae02 : MethodName := ⟨RJx4a65c, "isEmpty", "()Z"⟩
abbrev cJx4a65c_elementData_915e3 : ByteArray := prog_25_method_18_code
def yJx4a65c_elementData_915e3 : MethodName := ⟨RJx4a65c, "elementData", "(I)Ljava/lang/Object;"⟩
abbrev cJx4a65c_get_915e3 : ByteArray := prog_25_method_20_code
def yJx4a65c_get_915e3 : MethodName := ⟨RJx4a65c, "get", "(I)Ljava/lang/Object;"⟩
abbrev cJx4a65c_add_72be8 : ByteArray := prog_25_method_24_code
def yJx4a65c_add_72be8 : MethodName := ⟨RJx4a65c, "add", "(Ljava/lang/Object;[Ljava/lang/Object;I)V"⟩
abbrev cJx4a65c_add_9ea2d : ByteArray := prog_25_method_25_code
def yJx4a65c_add_9ea2d : MethodName := ⟨RJx4a65c, "add", "(Ljava/lang/Object;)Z"⟩
abbrev cJx4a65c_remove_915e3 : ByteArray := prog_25_method_29_code
def yJx4a65c_remove_915e3 : MethodName := ⟨RJx4a65c, "remove", "(I)Ljava/lang/Object;"⟩
abbrev cJx4a65c_fastRemove_b59b0 : ByteArray := prog_25_method_39_code
def yJx4a65c_fastRemove_b59b0 : MethodName := ⟨RJx4a65c, "fastRemove", "([Ljava/lang/Object;I)V"⟩
def RJ7 : String := "java/util/Arrays"
def TJ7 : u_T := fun k => match k with
  | _ => ("", "", "", false)
def tyJ7 : Nat → FieldType := fun k => match k with
  | _ => .int
abbrev wsJ70 : List Cond := u_ws RJ7 TJ7 0
theorem nmJ7 : ∀ a, a < 0 → ∀ b, b < 0 → a ≠ b → (TJ7 a).2.1 ≠ (TJ7 b).2.1 := by decide +kernel
theorem tyJ7_ok : ∀ k, k < 0 → parseFieldDescriptor (TJ7 k).2.2.1 = some (tyJ7 k) := by decide +kernel
abbrev cJ7_copyOf_1904c : ByteArray := prog_26_method_119_code
def yJ7_copyOf_1904c : MethodName := ⟨RJ7, "copyOf", "([Ljava/lang/Object;I)[Ljava/lang/Object;"⟩
abbrev cJ7_copyOf_6403c : ByteArray := prog_26_method_120_code
def yJ7_copyOf_6403c : MethodName := ⟨RJ7, "copyOf", "([Ljava/lang/Object;ILjava/lang/Class;)[Ljava/lang/Object;"⟩
def RJx5ef63 : String := "java/util/Collection"
def TJx5ef63 : u_T := fun k => match k with
  | _ => ("", "", "", false)
def tyJx5ef63 : Nat → FieldType := fun k => match k with
  | _ => .int
abbrev wsJx5ef630 : List Cond := u_ws RJx5ef63 TJx5ef63 0
theorem nmJx5ef63 : ∀ a, a < 0 → ∀ b, b < 0 → a ≠ b → (TJx5ef63 a).2.1 ≠ (TJx5ef63 b).2.1 := by decide +kernel
theorem tyJx5ef63_ok : ∀ k, k < 0 → parseFieldDescriptor (TJx5ef63 k).2.2.1 = some (tyJx5ef63 k) := by decide +kernel
def RJxbd725 : String := "java/util/List"
def TJxbd725 : u_T := fun k => match k with
  | _ => ("", "", "", false)
def tyJxbd725 : Nat → FieldType := fun k => match k with
  | _ => .int
abbrev wsJxbd7250 : List Cond := u_ws RJxbd725 TJxbd725 0
theorem nmJxbd725 : ∀ a, a < 0 → ∀ b, b < 0 → a ≠ b → (TJxbd725 a).2.1 ≠ (TJxbd725 b).2.1 := by decide +kernel
theorem tyJxbd725_ok : ∀ k, k < 0 → parseFieldDescriptor (TJxbd725 k).2.2.1 = some (tyJxbd725 k) := by decide +kernel
def RJ15 : String := "java/util/Objects"
def TJ15 : u_T := fun k => match k with
  | _ => ("", "", "", false)
def tyJ15 : Nat → FieldType := fun k => match k with
  | _ => .int
abbrev wsJ150 : List Cond := u_ws RJ15 TJ15 0
theorem nmJ15 : ∀ a, a < 0 → ∀ b, b < 0 → a ≠ b → (TJ15 a).2.1 ≠ (TJ15 b).2.1 := by decide +kernel
theorem tyJ15_ok : ∀ k, k < 0 → parseFieldDescriptor (TJ15 k).2.2.1 = some (tyJ15 k) := by decide +kernel
abbrev cJ15_checkIndex_7cf53 : ByteArray := prog_30_method_17_code
def yJ15_checkIndex_7cf53 : MethodName := ⟨RJ15, "checkIndex", "(II)I"⟩
def RJxf0a74 : String := "java/util/RandomAccess"
def TJxf0a74 : u_T := fun k => match k with
  | _ => ("", "", "", false)
def tyJxf0a74 : Nat → FieldType := fun k => match k with
  | _ => .int
abbrev wsJxf0a740 : List Cond := u_ws RJxf0a74 TJxf0a74 0
theorem nmJxf0a74 : ∀ a, a < 0 → ∀ b, b < 0 → a ≠ b → (TJxf0a74 a).2.1 ≠ (TJxf0a74 b).2.1 := by decide +kernel
theorem tyJxf0a74_ok : ∀ k, k < 0 → parseFieldDescriptor (TJxf0a74 k).2.2.1 = some (tyJxf0a74 k) := by decide +kernel
def RJxa66e6 : String := "java/util/SequencedCollection"
def TJxa66e6 : u_T := fun k => match k with
  | _ => ("", "", "", false)
def tyJxa66e6 : Nat → FieldType := fun k => match k with
  | _ => .int
abbrev wsJxa66e60 : List Cond := u_ws RJxa66e6 TJxa66e6 0
theorem nmJxa66e6 : ∀ a, a < 0 → ∀ b, b < 0 → a ≠ b → (TJxa66e6 a).2.1 ≠ (TJxa66e6 b).2.1 := by decide +kernel
theorem tyJxa66e6_ok : ∀ k, k < 0 → parseFieldDescriptor (TJxa66e6 k).2.2.1 = some (tyJxa66e6 k) := by decide +kernel
def RJ8 : String := "jdk/internal/util/ArraysSupport"
def TJ8 : u_T := fun k => match k with
  | _ => ("", "", "", false)
def tyJ8 : Nat → FieldType := fun k => match k with
  | _ => .int
abbrev wsJ80 : List Cond := u_ws RJ8 TJ8 0
theorem nmJ8 : ∀ a, a < 0 → ∀ b, b < 0 → a ≠ b → (TJ8 a).2.1 ≠ (TJ8 b).2.1 := by decide +kernel
theorem tyJ8_ok : ∀ k, k < 0 → parseFieldDescriptor (TJ8 k).2.2.1 = some (tyJ8 k) := by decide +kernel
abbrev cJ8_newLength_cabcc : ByteArray := prog_33_method_27_code
def yJ8_newLength_cabcc : MethodName := ⟨RJ8, "newLength", "(III)I"⟩
abbrev cJ8_hugeLength_7cf53 : ByteArray := prog_33_method_28_code
def yJ8_hugeLength_7cf53 : MethodName := ⟨RJ8, "hugeLength", "(II)I"⟩
def RJ3 : String := "jdk/internal/util/Preconditions"
def TJ3 : u_T := fun k => match k with
  | _ => ("", "", "", false)
def tyJ3 : Nat → FieldType := fun k => match k with
  | _ => .int
abbrev wsJ30 : List Cond := u_ws RJ3 TJ3 0
theorem nmJ3 : ∀ a, a < 0 → ∀ b, b < 0 → a ≠ b → (TJ3 a).2.1 ≠ (TJ3 b).2.1 := by decide +kernel
theorem tyJ3_ok : ∀ k, k < 0 → parseFieldDescriptor (TJ3 k).2.2.1 = some (tyJ3 k) := by decide +kernel
abbrev cJ3_checkIndex_8e157 : ByteArray := prog_34_method_11_code
def yJ3_checkIndex_8e157 : MethodName := ⟨RJ3, "checkIndex", "(IILjava/util/function/BiFunction;)I"⟩
def RL : String := "LiftDeskLaw"
abbrev cL_addLift : ByteArray := method_3_code
def yL_addLift : MethodName := ⟨RL, "addLift", "(LLiftDesk;I[J)I"⟩
abbrev cL_setTenant : ByteArray := method_4_code
def yL_setTenant : MethodName := ⟨RL, "setTenant", "(LLiftDesk;II[J)I"⟩
abbrev cL_setHours : ByteArray := method_5_code
def yL_setHours : MethodName := ⟨RL, "setHours", "(LLiftDesk;III[J)I"⟩
abbrev cL_addBadge : ByteArray := method_6_code
def yL_addBadge : MethodName := ⟨RL, "addBadge", "(LLiftDesk;I[J)I"⟩
abbrev cL_setRevoked : ByteArray := method_7_code
def yL_setRevoked : MethodName := ⟨RL, "setRevoked", "(LLiftDesk;IZ[J)I"⟩
abbrev cL_reason : ByteArray := method_8_code
def yL_reason : MethodName := ⟨RL, "reason", "(LLiftDesk;II[J)I"⟩
abbrev cL_call : ByteArray := method_9_code
def yL_call : MethodName := ⟨RL, "call", "(LLiftDesk;III[J)I"⟩
abbrev cL_state : ByteArray := method_10_code
def yL_state : MethodName := ⟨RL, "state", "(LLiftDesk;I[J)I"⟩
abbrev cL_floorOf : ByteArray := method_11_code
def yL_floorOf : MethodName := ⟨RL, "floorOf", "(LLiftDesk;I[J)I"⟩
abbrev cL_aim : ByteArray := method_12_code
def yL_aim : MethodName := ⟨RL, "aim", "(LLiftDesk;I[J)I"⟩
abbrev cL_liftOf : ByteArray := method_13_code
def yL_liftOf : MethodName := ⟨RL, "liftOf", "(LLiftDesk;I[J)I"⟩
abbrev cL_waited : ByteArray := method_14_code
def yL_waited : MethodName := ⟨RL, "waited", "(LLiftDesk;I[J)I"⟩
abbrev cL_waitedByLog : ByteArray := method_15_code
def yL_waitedByLog : MethodName := ⟨RL, "waitedByLog", "(LLiftDesk;I[J)I"⟩
abbrev cL_callOff : ByteArray := method_16_code
def yL_callOff : MethodName := ⟨RL, "callOff", "(LLiftDesk;I[J)I"⟩
abbrev cL_service : ByteArray := method_17_code
def yL_service : MethodName := ⟨RL, "service", "(LLiftDesk;I[J)I"⟩
abbrev cL_floorOfLift : ByteArray := method_18_code
def yL_floorOfLift : MethodName := ⟨RL, "floorOfLift", "(LLiftDesk;I[J)I"⟩
abbrev cL_isUp : ByteArray := method_19_code
def yL_isUp : MethodName := ⟨RL, "isUp", "(LLiftDesk;I[J)I"⟩
abbrev cL_aboard : ByteArray := method_20_code
def yL_aboard : MethodName := ⟨RL, "aboard", "(LLiftDesk;I[J)I"⟩
abbrev cL_score : ByteArray := method_21_code
def yL_score : MethodName := ⟨RL, "score", "(LLiftDesk;II[J)I"⟩
abbrev cL_pass : ByteArray := method_22_code
def yL_pass : MethodName := ⟨RL, "pass", "(LLiftDesk;I[J)I"⟩
abbrev cL_alarm : ByteArray := method_23_code
def yL_alarm : MethodName := ⟨RL, "alarm", "(LLiftDesk;I[J)I"⟩
abbrev cL_turn : ByteArray := method_24_code
def yL_turn : MethodName := ⟨RL, "turn", "(LLiftDesk;[J)I"⟩
abbrev cL_doneShare : ByteArray := method_25_code
def yL_doneShare : MethodName := ⟨RL, "doneShare", "(LLiftDesk;[D)I"⟩
abbrev cL_meanWait : ByteArray := method_26_code
def yL_meanWait : MethodName := ⟨RL, "meanWait", "(LLiftDesk;[D)I"⟩
abbrev cL_law : ByteArray := code
def yL_law : MethodName := ⟨RL, "law", "([I)Z"⟩
abbrev vwCl : List vw_C := [(RJ0, TJ0, 2), (RJx00060, TJx00060, 6), (RJx4a65c, TJx4a65c, 3), (RX0, TX0, 2), (RX1, TX1, 3), (RX2, TX2, 6), (RX3, TX3, 7), (RX4, TX4, 12), (RX5, TX5, 28)]
