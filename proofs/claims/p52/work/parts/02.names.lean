def RX0 : String := "BiscuitLocks$1"
def TX0 : u_T := fun k => match k with
  | _ => ("", "", "", false)
def tyX0 : Nat → FieldType := fun k => match k with
  | _ => .int
abbrev wsX00 : List Cond := u_ws RX0 TX0 0
theorem nmX0 : ∀ a, a < 0 → ∀ b, b < 0 → a ≠ b → (TX0 a).2.1 ≠ (TX0 b).2.1 := by decide +kernel
theorem tyX0_ok : ∀ k, k < 0 → parseFieldDescriptor (TX0 k).2.2.1 = some (tyX0 k) := by decide +kernel
def RX1 : String := "BiscuitLocks$Command"
def TX1 : u_T := fun k => match k with
  | _ => ("", "", "", false)
def tyX1 : Nat → FieldType := fun k => match k with
  | _ => .int
abbrev wsX10 : List Cond := u_ws RX1 TX1 0
theorem nmX1 : ∀ a, a < 0 → ∀ b, b < 0 → a ≠ b → (TX1 a).2.1 ≠ (TX1 b).2.1 := by decide +kernel
theorem tyX1_ok : ∀ k, k < 0 → parseFieldDescriptor (TX1 k).2.2.1 = some (tyX1 k) := by decide +kernel
def RX2 : String := "BiscuitLocks$History"
def TX2 : u_T := fun k => match k with
  | 0 => ("BiscuitLocks$History", "states", "[LBiscuitLocks$House;", true)
  | 1 => ("BiscuitLocks$History", "first", "I", false)
  | _ => ("BiscuitLocks$History", "count", "I", false)
def tyX2 : Nat → FieldType := fun k => match k with
  | 0 => .array (.object "BiscuitLocks$House")
  | 1 => .int
  | _ => .int
abbrev wsX20 : List Cond := u_ws RX2 TX2 3
theorem nmX2 : ∀ a, a < 3 → ∀ b, b < 3 → a ≠ b → (TX2 a).2.1 ≠ (TX2 b).2.1 := by decide +kernel
theorem tyX2_ok : ∀ k, k < 3 → parseFieldDescriptor (TX2 k).2.2.1 = some (tyX2 k) := by decide +kernel
abbrev cX2_init : ByteArray := prog_4_method_1_code
def yX2_init : MethodName := ⟨RX2, "<init>", "()V"⟩
abbrev cX2_push : ByteArray := prog_4_method_2_code
def yX2_push : MethodName := ⟨RX2, "push", "(LBiscuitLocks$House;)V"⟩
abbrev cX2_popInto : ByteArray := prog_4_method_3_code
def yX2_popInto : MethodName := ⟨RX2, "popInto", "(LBiscuitLocks$House;)V"⟩
def RX3 : String := "BiscuitLocks$House"
def TX3 : u_T := fun k => match k with
  | 0 => ("BiscuitLocks$House", "locks", "[LBiscuitLocks$Lock;", true)
  | 1 => ("BiscuitLocks$House", "ovenDoors", "[I", true)
  | 2 => ("BiscuitLocks$House", "ovenHours", "[I", true)
  | 3 => ("BiscuitLocks$House", "triedDoors", "[I", true)
  | 4 => ("BiscuitLocks$House", "triesOpened", "[Z", true)
  | 5 => ("BiscuitLocks$House", "doors", "I", false)
  | 6 => ("BiscuitLocks$House", "damp", "I", false)
  | 7 => ("BiscuitLocks$House", "hour", "I", false)
  | 8 => ("BiscuitLocks$House", "tries", "I", false)
  | 9 => ("BiscuitLocks$House", "opened", "I", false)
  | 10 => ("BiscuitLocks$House", "brokenByTry", "I", false)
  | 11 => ("BiscuitLocks$House", "shutAgain", "I", false)
  | 12 => ("BiscuitLocks$House", "putInWhileShut", "I", false)
  | _ => ("BiscuitLocks$House", "baked", "I", false)
def tyX3 : Nat → FieldType := fun k => match k with
  | 0 => .array (.object "BiscuitLocks$Lock")
  | 1 => .array .int
  | 2 => .array .int
  | 3 => .array .int
  | 4 => .array .boolean
  | 5 => .int
  | 6 => .int
  | 7 => .int
  | 8 => .int
  | 9 => .int
  | 10 => .int
  | 11 => .int
  | 12 => .int
  | _ => .int
abbrev wsX30 : List Cond := u_ws RX3 TX3 14
theorem nmX3 : ∀ a, a < 14 → ∀ b, b < 14 → a ≠ b → (TX3 a).2.1 ≠ (TX3 b).2.1 := by decide +kernel
theorem tyX3_ok : ∀ k, k < 14 → parseFieldDescriptor (TX3 k).2.2.1 = some (tyX3 k) := by decide +kernel
abbrev cX3_init : ByteArray := prog_5_method_1_code
def yX3_init : MethodName := ⟨RX3, "<init>", "()V"⟩
abbrev cX3_copyFrom : ByteArray := prog_5_method_2_code
def yX3_copyFrom : MethodName := ⟨RX3, "copyFrom", "(LBiscuitLocks$House;)V"⟩
abbrev cX3_hasDoor : ByteArray := prog_5_method_3_code
def yX3_hasDoor : MethodName := ⟨RX3, "hasDoor", "(I)Z"⟩
abbrev cX3_isInOven : ByteArray := prog_5_method_4_code
def yX3_isInOven : MethodName := ⟨RX3, "isInOven", "(I)Z"⟩
abbrev cX3_refusalOf : ByteArray := prog_5_method_5_code
def yX3_refusalOf : MethodName := ⟨RX3, "refusalOf", "(LBiscuitLocks$Command;IIII)LBiscuitLocks$Refusal;"⟩
abbrev cX3_refusalOfDoor : ByteArray := prog_5_method_6_code
def yX3_refusalOfDoor : MethodName := ⟨RX3, "refusalOfDoor", "(III)LBiscuitLocks$Refusal;"⟩
abbrev cX3_refusalOfTurn : ByteArray := prog_5_method_7_code
def yX3_refusalOfTurn : MethodName := ⟨RX3, "refusalOfTurn", "(III)LBiscuitLocks$Refusal;"⟩
abbrev cX3_refusalOfTry : ByteArray := prog_5_method_8_code
def yX3_refusalOfTry : MethodName := ⟨RX3, "refusalOfTry", "(I)LBiscuitLocks$Refusal;"⟩
abbrev cX3_refusalOfShut : ByteArray := prog_5_method_9_code
def yX3_refusalOfShut : MethodName := ⟨RX3, "refusalOfShut", "(I)LBiscuitLocks$Refusal;"⟩
abbrev cX3_refusalOfBake : ByteArray := prog_5_method_10_code
def yX3_refusalOfBake : MethodName := ⟨RX3, "refusalOfBake", "(II)LBiscuitLocks$Refusal;"⟩
abbrev cX3_refusalOfSet : ByteArray := prog_5_method_11_code
def yX3_refusalOfSet : MethodName := ⟨RX3, "refusalOfSet", "(IIII)LBiscuitLocks$Refusal;"⟩
abbrev cX3_carryOut : ByteArray := prog_5_method_12_code
def yX3_carryOut : MethodName := ⟨RX3, "carryOut", "(LBiscuitLocks$Command;IIII)I"⟩
abbrev cX3_addLock : ByteArray := prog_5_method_13_code
def yX3_addLock : MethodName := ⟨RX3, "addLock", "(III)I"⟩
abbrev cX3_tryDoor : ByteArray := prog_5_method_14_code
def yX3_tryDoor : MethodName := ⟨RX3, "tryDoor", "(I)Z"⟩
abbrev cX3_shutDoor : ByteArray := prog_5_method_15_code
def yX3_shutDoor : MethodName := ⟨RX3, "shutDoor", "(I)I"⟩
abbrev cX3_replaceDamp : ByteArray := prog_5_method_16_code
def yX3_replaceDamp : MethodName := ⟨RX3, "replaceDamp", "(I)I"⟩
abbrev cX3_putIn : ByteArray := prog_5_method_17_code
def yX3_putIn : MethodName := ⟨RX3, "putIn", "(II)I"⟩
abbrev cX3_letHoursPass : ByteArray := prog_5_method_18_code
def yX3_letHoursPass : MethodName := ⟨RX3, "letHoursPass", "(I)I"⟩
abbrev cX3_letHourPass : ByteArray := prog_5_method_19_code
def yX3_letHourPass : MethodName := ⟨RX3, "letHourPass", "()V"⟩
abbrev cX3_driftShutLocks : ByteArray := prog_5_method_20_code
def yX3_driftShutLocks : MethodName := ⟨RX3, "driftShutLocks", "(I)V"⟩
abbrev cX3_bakeOn : ByteArray := prog_5_method_21_code
def yX3_bakeOn : MethodName := ⟨RX3, "bakeOn", "(I)V"⟩
abbrev cX3_countRemembered : ByteArray := prog_5_method_22_code
def yX3_countRemembered : MethodName := ⟨RX3, "countRemembered", "()I"⟩
abbrev cX3_countShut : ByteArray := prog_5_method_23_code
def yX3_countShut : MethodName := ⟨RX3, "countShut", "()I"⟩
abbrev cX3_countShutByAccounts : ByteArray := prog_5_method_24_code
def yX3_countShutByAccounts : MethodName := ⟨RX3, "countShutByAccounts", "()I"⟩
def RX4 : String := "BiscuitLocks$Lock"
def TX4 : u_T := fun k => match k with
  | 0 => ("BiscuitLocks$Lock", "dials", "[I", true)
  | 1 => ("BiscuitLocks$Lock", "combination", "[I", true)
  | 2 => ("BiscuitLocks$Lock", "open", "Z", false)
  | _ => ("BiscuitLocks$Lock", "crumbs", "I", false)
def tyX4 : Nat → FieldType := fun k => match k with
  | 0 => .array .int
  | 1 => .array .int
  | 2 => .boolean
  | _ => .int
abbrev wsX40 : List Cond := u_ws RX4 TX4 4
theorem nmX4 : ∀ a, a < 4 → ∀ b, b < 4 → a ≠ b → (TX4 a).2.1 ≠ (TX4 b).2.1 := by decide +kernel
theorem tyX4_ok : ∀ k, k < 4 → parseFieldDescriptor (TX4 k).2.2.1 = some (tyX4 k) := by decide +kernel
abbrev cX4_init : ByteArray := prog_6_method_1_code
def yX4_init : MethodName := ⟨RX4, "<init>", "()V"⟩
abbrev cX4_copyFrom : ByteArray := prog_6_method_2_code
def yX4_copyFrom : MethodName := ⟨RX4, "copyFrom", "(LBiscuitLocks$Lock;)V"⟩
abbrev cX4_hasMostCrumbs : ByteArray := prog_6_method_3_code
def yX4_hasMostCrumbs : MethodName := ⟨RX4, "hasMostCrumbs", "()Z"⟩
abbrev cX4_playNow : ByteArray := prog_6_method_4_code
def yX4_playNow : MethodName := ⟨RX4, "playNow", "()I"⟩
abbrev cX4_distanceOf : ByteArray := prog_6_method_5_code
def yX4_distanceOf : MethodName := ⟨RX4, "distanceOf", "(I)I"⟩
abbrev cX4_countFitting : ByteArray := prog_6_method_6_code
def yX4_countFitting : MethodName := ⟨RX4, "countFitting", "()I"⟩
abbrev cX4_stepsByDistances : ByteArray := prog_6_method_7_code
def yX4_stepsByDistances : MethodName := ⟨RX4, "stepsByDistances", "()I"⟩
abbrev cX4_stepsByTurning : ByteArray := prog_6_method_8_code
def yX4_stepsByTurning : MethodName := ⟨RX4, "stepsByTurning", "(LBiscuitLocks$Lock;)I"⟩
abbrev cX4_turnUntilFitting : ByteArray := prog_6_method_9_code
def yX4_turnUntilFitting : MethodName := ⟨RX4, "turnUntilFitting", "(II)I"⟩
abbrev cX4_turnBy : ByteArray := prog_6_method_10_code
def yX4_turnBy : MethodName := ⟨RX4, "turnBy", "(II)I"⟩
abbrev cX4_takeTry : ByteArray := prog_6_method_11_code
def yX4_takeTry : MethodName := ⟨RX4, "takeTry", "()Z"⟩
abbrev cX4_setPositions : ByteArray := prog_6_method_12_code
def yX4_setPositions : MethodName := ⟨RX4, "setPositions", "(III)I"⟩
abbrev cX4_setPosition : ByteArray := prog_6_method_13_code
def yX4_setPosition : MethodName := ⟨RX4, "setPosition", "(II)I"⟩
abbrev cX4_renew : ByteArray := prog_6_method_14_code
def yX4_renew : MethodName := ⟨RX4, "renew", "()V"⟩
def RX5 : String := "BiscuitLocks$Refusal"
def TX5 : u_T := fun k => match k with
  | _ => ("", "", "", false)
def tyX5 : Nat → FieldType := fun k => match k with
  | _ => .int
abbrev wsX50 : List Cond := u_ws RX5 TX5 0
theorem nmX5 : ∀ a, a < 0 → ∀ b, b < 0 → a ≠ b → (TX5 a).2.1 ≠ (TX5 b).2.1 := by decide +kernel
theorem tyX5_ok : ∀ k, k < 0 → parseFieldDescriptor (TX5 k).2.2.1 = some (tyX5 k) := by decide +kernel
def RX6 : String := "BiscuitLocks$Script"
def TX6 : u_T := fun k => match k with
  | 0 => ("BiscuitLocks$Script", "text", "Ljava/lang/StringBuilder;", true)
  | 1 => ("BiscuitLocks$Script", "numbers", "[I", true)
  | _ => ("BiscuitLocks$Script", "place", "I", false)
def tyX6 : Nat → FieldType := fun k => match k with
  | 0 => .object "java/lang/StringBuilder"
  | 1 => .array .int
  | _ => .int
abbrev wsX60 : List Cond := u_ws RX6 TX6 3
theorem nmX6 : ∀ a, a < 3 → ∀ b, b < 3 → a ≠ b → (TX6 a).2.1 ≠ (TX6 b).2.1 := by decide +kernel
theorem tyX6_ok : ∀ k, k < 3 → parseFieldDescriptor (TX6 k).2.2.1 = some (tyX6 k) := by decide +kernel
abbrev cX6_init : ByteArray := prog_8_method_1_code
def yX6_init : MethodName := ⟨RX6, "<init>", "()V"⟩
abbrev cX6_countCommands : ByteArray := prog_8_method_2_code
def yX6_countCommands : MethodName := ⟨RX6, "countCommands", "()I"⟩
abbrev cX6_read : ByteArray := prog_8_method_3_code
def yX6_read : MethodName := ⟨RX6, "read", "(I)LBiscuitLocks$Command;"⟩
abbrev cX6_canEndAt : ByteArray := prog_8_method_4_code
def yX6_canEndAt : MethodName := ⟨RX6, "canEndAt", "(I)Z"⟩
abbrev cX6_countMatching : ByteArray := prog_8_method_5_code
def yX6_countMatching : MethodName := ⟨RX6, "countMatching", "(Ljava/lang/String;I)I"⟩
abbrev cX6_isOf : ByteArray := prog_8_method_6_code
def yX6_isOf : MethodName := ⟨RX6, "isOf", "(CC)Z"⟩
abbrev cX6_readNumbers : ByteArray := prog_8_method_7_code
def yX6_readNumbers : MethodName := ⟨RX6, "readNumbers", "(Ljava/lang/String;I)V"⟩
def RX7 : String := "BiscuitLocks"
def TX7 : u_T := fun k => match k with
  | 0 => ("BiscuitLocks", "house", "LBiscuitLocks$House;", true)
  | 1 => ("BiscuitLocks", "spare", "LBiscuitLocks$House;", true)
  | 2 => ("BiscuitLocks", "snapshot", "LBiscuitLocks$House;", true)
  | 3 => ("BiscuitLocks", "history", "LBiscuitLocks$History;", true)
  | 4 => ("BiscuitLocks", "script", "LBiscuitLocks$Script;", true)
  | 5 => ("BiscuitLocks", "output", "Ljava/lang/StringBuilder;", true)
  | 6 => ("BiscuitLocks", "saved", "Z", false)
  | 7 => ("BiscuitLocks", "errorPlace", "I", false)
  | _ => ("BiscuitLocks", "failedPlace", "I", false)
def tyX7 : Nat → FieldType := fun k => match k with
  | 0 => .object "BiscuitLocks$House"
  | 1 => .object "BiscuitLocks$House"
  | 2 => .object "BiscuitLocks$House"
  | 3 => .object "BiscuitLocks$History"
  | 4 => .object "BiscuitLocks$Script"
  | 5 => .object "java/lang/StringBuilder"
  | 6 => .boolean
  | 7 => .int
  | _ => .int
abbrev wsX70 : List Cond := u_ws RX7 TX7 9
theorem nmX7 : ∀ a, a < 9 → ∀ b, b < 9 → a ≠ b → (TX7 a).2.1 ≠ (TX7 b).2.1 := by decide +kernel
theorem tyX7_ok : ∀ k, k < 9 → parseFieldDescriptor (TX7 k).2.2.1 = some (tyX7 k) := by decide +kernel
abbrev cX7_init : ByteArray := prog_1_method_1_code
def yX7_init : MethodName := ⟨RX7, "<init>", "()V"⟩
abbrev cX7_addDoor : ByteArray := prog_1_method_2_code
def yX7_addDoor : MethodName := ⟨RX7, "addDoor", "(III)I"⟩
abbrev cX7_turn : ByteArray := prog_1_method_3_code
def yX7_turn : MethodName := ⟨RX7, "turn", "(III)I"⟩
abbrev cX7_tryLock : ByteArray := prog_1_method_4_code
def yX7_tryLock : MethodName := ⟨RX7, "tryLock", "(I)Z"⟩
abbrev cX7_shut : ByteArray := prog_1_method_5_code
def yX7_shut : MethodName := ⟨RX7, "shut", "(I)I"⟩
abbrev cX7_setCombination : ByteArray := prog_1_method_6_code
def yX7_setCombination : MethodName := ⟨RX7, "setCombination", "(IIII)I"⟩
abbrev cX7_setDamp : ByteArray := prog_1_method_7_code
def yX7_setDamp : MethodName := ⟨RX7, "setDamp", "(I)I"⟩
abbrev cX7_bake : ByteArray := prog_1_method_8_code
def yX7_bake : MethodName := ⟨RX7, "bake", "(II)I"⟩
abbrev cX7_passHours : ByteArray := prog_1_method_9_code
def yX7_passHours : MethodName := ⟨RX7, "passHours", "(I)I"⟩
abbrev cX7_change : ByteArray := prog_1_method_10_code
def yX7_change : MethodName := ⟨RX7, "change", "(LBiscuitLocks$Command;IIII)I"⟩
abbrev cX7_throwFor : ByteArray := prog_1_method_11_code
def yX7_throwFor : MethodName := ⟨RX7, "throwFor", "(LBiscuitLocks$Refusal;)V"⟩
abbrev cX7_doorCount : ByteArray := prog_1_method_12_code
def yX7_doorCount : MethodName := ⟨RX7, "doorCount", "()I"⟩
abbrev cX7_dial : ByteArray := prog_1_method_13_code
def yX7_dial : MethodName := ⟨RX7, "dial", "(II)I"⟩
abbrev cX7_combination : ByteArray := prog_1_method_14_code
def yX7_combination : MethodName := ⟨RX7, "combination", "(II)I"⟩
abbrev cX7_isOpen : ByteArray := prog_1_method_15_code
def yX7_isOpen : MethodName := ⟨RX7, "isOpen", "(I)Z"⟩
abbrev cX7_isBroken : ByteArray := prog_1_method_16_code
def yX7_isBroken : MethodName := ⟨RX7, "isBroken", "(I)Z"⟩
abbrev cX7_crumbs : ByteArray := prog_1_method_17_code
def yX7_crumbs : MethodName := ⟨RX7, "crumbs", "(I)I"⟩
abbrev cX7_play : ByteArray := prog_1_method_18_code
def yX7_play : MethodName := ⟨RX7, "play", "(I)I"⟩
abbrev cX7_fittingDials : ByteArray := prog_1_method_19_code
def yX7_fittingDials : MethodName := ⟨RX7, "fittingDials", "(I)I"⟩
abbrev cX7_stepsToOpen : ByteArray := prog_1_method_20_code
def yX7_stepsToOpen : MethodName := ⟨RX7, "stepsToOpen", "(I)I"⟩
abbrev cX7_stepsToOpenByTurning : ByteArray := prog_1_method_21_code
def yX7_stepsToOpenByTurning : MethodName := ⟨RX7, "stepsToOpenByTurning", "(I)I"⟩
abbrev cX7_openingSettings : ByteArray := prog_1_method_22_code
def yX7_openingSettings : MethodName := ⟨RX7, "openingSettings", "(I)I"⟩
abbrev cX7_lockOf : ByteArray := prog_1_method_23_code
def yX7_lockOf : MethodName := ⟨RX7, "lockOf", "(I)LBiscuitLocks$Lock;"⟩
abbrev cX7_requireDial : ByteArray := prog_1_method_24_code
def yX7_requireDial : MethodName := ⟨RX7, "requireDial", "(I)V"⟩
abbrev cX7_triesUntilBroken : ByteArray := prog_1_method_25_code
def yX7_triesUntilBroken : MethodName := ⟨RX7, "triesUntilBroken", "(I)I"⟩
abbrev cX7_dialAfter : ByteArray := prog_1_method_26_code
def yX7_dialAfter : MethodName := ⟨RX7, "dialAfter", "(III)I"⟩
abbrev cX7_hoursUntilFitting : ByteArray := prog_1_method_27_code
def yX7_hoursUntilFitting : MethodName := ⟨RX7, "hoursUntilFitting", "(I)I"⟩
abbrev cX7_bakedDoor : ByteArray := prog_1_method_28_code
def yX7_bakedDoor : MethodName := ⟨RX7, "bakedDoor", "(I)I"⟩
abbrev cX7_bakingHours : ByteArray := prog_1_method_29_code
def yX7_bakingHours : MethodName := ⟨RX7, "bakingHours", "(I)I"⟩
abbrev cX7_isBaking : ByteArray := prog_1_method_30_code
def yX7_isBaking : MethodName := ⟨RX7, "isBaking", "(I)Z"⟩
abbrev cX7_requireOven : ByteArray := prog_1_method_31_code
def yX7_requireOven : MethodName := ⟨RX7, "requireOven", "(I)V"⟩
abbrev cX7_rememberedTries : ByteArray := prog_1_method_33_code
def yX7_rememberedTries : MethodName := ⟨RX7, "rememberedTries", "()I"⟩
abbrev cX7_triedDoor : ByteArray := prog_1_method_34_code
def yX7_triedDoor : MethodName := ⟨RX7, "triedDoor", "(I)I"⟩
abbrev cX7_didOpen : ByteArray := prog_1_method_35_code
def yX7_didOpen : MethodName := ⟨RX7, "didOpen", "(I)Z"⟩
abbrev cX7_requireRemembered : ByteArray := prog_1_method_36_code
def yX7_requireRemembered : MethodName := ⟨RX7, "requireRemembered", "(I)V"⟩
abbrev cX7_shutLocks : ByteArray := prog_1_method_37_code
def yX7_shutLocks : MethodName := ⟨RX7, "shutLocks", "()I"⟩
abbrev cX7_shutLocksByAccounts : ByteArray := prog_1_method_38_code
def yX7_shutLocksByAccounts : MethodName := ⟨RX7, "shutLocksByAccounts", "()I"⟩
abbrev cX7_damp : ByteArray := prog_1_method_39_code
def yX7_damp : MethodName := ⟨RX7, "damp", "()I"⟩
abbrev cX7_hour : ByteArray := prog_1_method_40_code
def yX7_hour : MethodName := ⟨RX7, "hour", "()I"⟩
abbrev cX7_tryTotal : ByteArray := prog_1_method_41_code
def yX7_tryTotal : MethodName := ⟨RX7, "tryTotal", "()I"⟩
abbrev cX7_openedTotal : ByteArray := prog_1_method_42_code
def yX7_openedTotal : MethodName := ⟨RX7, "openedTotal", "()I"⟩
abbrev cX7_bakedTotal : ByteArray := prog_1_method_43_code
def yX7_bakedTotal : MethodName := ⟨RX7, "bakedTotal", "()I"⟩
abbrev cX7_isConsistent : ByteArray := prog_1_method_46_code
def yX7_isConsistent : MethodName := ⟨RX7, "isConsistent", "()Z"⟩
abbrev cX7_renderLock : ByteArray := prog_1_method_47_code
def yX7_renderLock : MethodName := ⟨RX7, "renderLock", "(I)I"⟩
abbrev cX7_appendPositions : ByteArray := prog_1_method_48_code
def yX7_appendPositions : MethodName := ⟨RX7, "appendPositions", "([I)V"⟩
abbrev cX7_renderOvens : ByteArray := prog_1_method_49_code
def yX7_renderOvens : MethodName := ⟨RX7, "renderOvens", "()I"⟩
abbrev cX7_type : ByteArray := prog_1_method_51_code
def yX7_type : MethodName := ⟨RX7, "type", "(C)I"⟩
abbrev cX7_runScript : ByteArray := prog_1_method_52_code
def yX7_runScript : MethodName := ⟨RX7, "runScript", "()I"⟩
abbrev cX7_carryOutCommands : ByteArray := prog_1_method_53_code
def yX7_carryOutCommands : MethodName := ⟨RX7, "carryOutCommands", "(I)I"⟩
abbrev cX7_undo : ByteArray := prog_1_method_56_code
def yX7_undo : MethodName := ⟨RX7, "undo", "()I"⟩
abbrev cX7_save : ByteArray := prog_1_method_57_code
def yX7_save : MethodName := ⟨RX7, "save", "()I"⟩
abbrev cX7_restore : ByteArray := prog_1_method_58_code
def yX7_restore : MethodName := ⟨RX7, "restore", "()I"⟩
abbrev cX7_isDial : ByteArray := prog_1_method_59_code
def yX7_isDial : MethodName := ⟨RX7, "isDial", "(I)Z"⟩
abbrev cX7_isOven : ByteArray := prog_1_method_60_code
def yX7_isOven : MethodName := ⟨RX7, "isOven", "(I)Z"⟩
abbrev cX7_isPosition : ByteArray := prog_1_method_61_code
def yX7_isPosition : MethodName := ⟨RX7, "isPosition", "(I)Z"⟩
abbrev cX7_areNoPositions : ByteArray := prog_1_method_62_code
def yX7_areNoPositions : MethodName := ⟨RX7, "areNoPositions", "(III)Z"⟩
def RX8 : String := "BiscuitLocksModel"
def TX8 : u_T := fun k => match k with
  | _ => ("", "", "", false)
def tyX8 : Nat → FieldType := fun k => match k with
  | _ => .int
abbrev wsX80 : List Cond := u_ws RX8 TX8 0
theorem nmX8 : ∀ a, a < 0 → ∀ b, b < 0 → a ≠ b → (TX8 a).2.1 ≠ (TX8 b).2.1 := by decide +kernel
theorem tyX8_ok : ∀ k, k < 0 → parseFieldDescriptor (TX8 k).2.2.1 = some (tyX8 k) := by decide +kernel
def RJx145de : String := "java/io/Serializable"
def TJx145de : u_T := fun k => match k with
  | _ => ("", "", "", false)
def tyJx145de : Nat → FieldType := fun k => match k with
  | _ => .int
abbrev wsJx145de0 : List Cond := u_ws RJx145de TJx145de 0
theorem nmJx145de : ∀ a, a < 0 → ∀ b, b < 0 → a ≠ b → (TJx145de a).2.1 ≠ (TJx145de b).2.1 := by decide +kernel
theorem tyJx145de_ok : ∀ k, k < 0 → parseFieldDescriptor (TJx145de k).2.2.1 = some (tyJx145de k) := by decide +kernel
def RJ5 : String := "java/lang/AbstractStringBuilder"
def TJ5 : u_T := fun k => match k with
  | _ => ("", "", "", false)
def tyJ5 : Nat → FieldType := fun k => match k with
  | _ => .int
abbrev wsJ50 : List Cond := u_ws RJ5 TJ5 0
theorem nmJ5 : ∀ a, a < 0 → ∀ b, b < 0 → a ≠ b → (TJ5 a).2.1 ≠ (TJ5 b).2.1 := by decide +kernel
theorem tyJ5_ok : ∀ k, k < 0 → parseFieldDescriptor (TJ5 k).2.2.1 = some (tyJ5 k) := by decide +kernel
abbrev cJ5_init_d00df : ByteArray := prog_12_method_2_code
def yJ5_init_d00df : MethodName := ⟨RJ5, "<init>", "(I)V"⟩
abbrev cJ5_length_8abf5 : ByteArray := prog_12_method_6_code
def yJ5_length_8abf5 : MethodName := ⟨RJ5, "length", "()I"⟩
abbrev cJ5_ensureCapacityInternal_d00df : ByteArray := prog_12_method_9_code
def yJ5_ensureCapacityInternal_d00df : MethodName := ⟨RJ5, "ensureCapacityInternal", "(I)V"⟩
abbrev cJ5_newCapacity_0f7a4 : ByteArray := prog_12_method_10_code
def yJ5_newCapacity_0f7a4 : MethodName := ⟨RJ5, "newCapacity", "(I)I"⟩
abbrev cJ5_inflate_da8c8 : ByteArray := prog_12_method_11_code
def yJ5_inflate_da8c8 : MethodName := ⟨RJ5, "inflate", "()V"⟩
abbrev cJ5_setLength_d00df : ByteArray := prog_12_method_13_code
def yJ5_setLength_d00df : MethodName := ⟨RJ5, "setLength", "(I)V"⟩
abbrev cJ5_charAt_5068e : ByteArray := prog_12_method_14_code
def yJ5_charAt_5068e : MethodName := ⟨RJ5, "charAt", "(I)C"⟩
abbrev cJ5_append_cf1ce : ByteArray := prog_12_method_22_code
def yJ5_append_cf1ce : MethodName := ⟨RJ5, "append", "(Ljava/lang/String;)Ljava/lang/AbstractStringBuilder;"⟩
abbrev cJ5_appendNull_278bc : ByteArray := prog_12_method_26_code
def yJ5_appendNull_278bc : MethodName := ⟨RJ5, "appendNull", "()Ljava/lang/AbstractStringBuilder;"⟩
abbrev cJ5_append_3fe6f : ByteArray := prog_12_method_31_code
def yJ5_append_3fe6f : MethodName := ⟨RJ5, "append", "(C)Ljava/lang/AbstractStringBuilder;"⟩
abbrev cJ5_append_c97b9 : ByteArray := prog_12_method_32_code
def yJ5_append_c97b9 : MethodName := ⟨RJ5, "append", "(I)Ljava/lang/AbstractStringBuilder;"⟩
abbrev cJ5_getValue_6d5f1 : ByteArray := prog_12_method_64_code
def yJ5_getValue_6d5f1 : MethodName := ⟨RJ5, "getValue", "()[B"⟩
abbrev cJ5_isLatin1_aae02 : ByteArray := prog_12_method_68_code
def yJ5_isLatin1_aae02 : MethodName := ⟨RJ5, "isLatin1", "()Z"⟩
abbrev cJ5_inflateIfNeededFor_a7421 : ByteArray := prog_12_method_71_code
def yJ5_inflateIfNeededFor_a7421 : MethodName := ⟨RJ5, "inflateIfNeededFor", "(Ljava/lang/String;)V"⟩
abbrev cJ5_putStringAt_47b60 : ByteArray := prog_12_method_73_code
def yJ5_putStringAt_47b60 : MethodName := ⟨RJ5, "putStringAt", "(ILjava/lang/String;)V"⟩
def RJx2cfe8 : String := "java/lang/Appendable"
def TJx2cfe8 : u_T := fun k => match k with
  | _ => ("", "", "", false)
def tyJx2cfe8 : Nat → FieldType := fun k => match k with
  | _ => .int
abbrev wsJx2cfe80 : List Cond := u_ws RJx2cfe8 TJx2cfe8 0
theorem nmJx2cfe8 : ∀ a, a < 0 → ∀ b, b < 0 → a ≠ b → (TJx2cfe8 a).2.1 ≠ (TJx2cfe8 b).2.1 := by decide +kernel
theorem tyJx2cfe8_ok : ∀ k, k < 0 → parseFieldDescriptor (TJx2cfe8 k).2.2.1 = some (tyJx2cfe8 k) := by decide +kernel
def RJx00060 : String := "java/lang/ArrayIndexOutOfBoundsException"
def TJx00060 : u_T := fun k => match k with
  | 0 => ("java/lang/Throwable", "cause", "Ljava/lang/Throwable;", false)
  | 1 => ("java/lang/Throwable", "stackTrace", "[Ljava/lang/StackTraceElement;", false)
  | 2 => ("java/lang/Throwable", "suppressedExceptions", "Ljava/util/List;", false)
  | 3 => ("java/lang/Throwable", "detailMessage", "Ljava/lang/String;", false)
  | 4 => ("java/lang/Throwable", "backtrace", "Ljava/lang/Object;", false)
  | _ => ("java/lang/Throwable", "depth", "I", false)
def tyJx00060 : Nat → FieldType := fun k => match k with
  | 0 => .object "java/lang/Throwable"
  | 1 => .array (.object "java/lang/StackTraceElement")
  | 2 => .object "java/util/List"
  | 3 => .object "java/lang/String"
  | 4 => .object "java/lang/Object"
  | _ => .int
abbrev wsJx000600 : List Cond := u_ws RJx00060 TJx00060 6
theorem nmJx00060 : ∀ a, a < 6 → ∀ b, b < 6 → a ≠ b → (TJx00060 a).2.1 ≠ (TJx00060 b).2.1 := by decide +kernel
theorem tyJx00060_ok : ∀ k, k < 6 → parseFieldDescriptor (TJx00060 k).2.2.1 = some (tyJx00060 k) := by decide +kernel
abbrev cJx00060_init_a7421 : ByteArray := prog_14_method_2_code
def yJx00060_init_a7421 : MethodName := ⟨RJx00060, "<init>", "(Ljava/lang/String;)V"⟩
abbrev cJx00060_init_d00df : ByteArray := prog_14_method_3_code
def yJx00060_init_d00df : MethodName := ⟨RJx00060, "<init>", "(I)V"⟩
def RJx9f9b0 : String := "java/lang/CharSequence"
def TJx9f9b0 : u_T := fun k => match k with
  | _ => ("", "", "", false)
def tyJx9f9b0 : Nat → FieldType := fun k => match k with
  | _ => .int
abbrev wsJx9f9b00 : List Cond := u_ws RJx9f9b0 TJx9f9b0 0
theorem nmJx9f9b0 : ∀ a, a < 0 → ∀ b, b < 0 → a ≠ b → (TJx9f9b0 a).2.1 ≠ (TJx9f9b0 b).2.1 := by decide +kernel
theorem tyJx9f9b0_ok : ∀ k, k < 0 → parseFieldDescriptor (TJx9f9b0 k).2.2.1 = some (tyJx9f9b0 k) := by decide +kernel
def RJx8e188 : String := "java/lang/Cloneable"
def TJx8e188 : u_T := fun k => match k with
  | _ => ("", "", "", false)
def tyJx8e188 : Nat → FieldType := fun k => match k with
  | _ => .int
abbrev wsJx8e1880 : List Cond := u_ws RJx8e188 TJx8e188 0
theorem nmJx8e188 : ∀ a, a < 0 → ∀ b, b < 0 → a ≠ b → (TJx8e188 a).2.1 ≠ (TJx8e188 b).2.1 := by decide +kernel
theorem tyJx8e188_ok : ∀ k, k < 0 → parseFieldDescriptor (TJx8e188 k).2.2.1 = some (tyJx8e188 k) := by decide +kernel
def RJxb160c : String := "java/lang/Comparable"
def TJxb160c : u_T := fun k => match k with
  | _ => ("", "", "", false)
def tyJxb160c : Nat → FieldType := fun k => match k with
  | _ => .int
abbrev wsJxb160c0 : List Cond := u_ws RJxb160c TJxb160c 0
theorem nmJxb160c : ∀ a, a < 0 → ∀ b, b < 0 → a ≠ b → (TJxb160c a).2.1 ≠ (TJxb160c b).2.1 := by decide +kernel
theorem tyJxb160c_ok : ∀ k, k < 0 → parseFieldDescriptor (TJxb160c k).2.2.1 = some (tyJxb160c k) := by decide +kernel
def RJx29ce0 : String := "java/lang/Enum"
def TJx29ce0 : u_T := fun k => match k with
  | _ => ("", "", "", false)
def tyJx29ce0 : Nat → FieldType := fun k => match k with
  | _ => .int
abbrev wsJx29ce00 : List Cond := u_ws RJx29ce0 TJx29ce0 0
theorem nmJx29ce0 : ∀ a, a < 0 → ∀ b, b < 0 → a ≠ b → (TJx29ce0 a).2.1 ≠ (TJx29ce0 b).2.1 := by decide +kernel
theorem tyJx29ce0_ok : ∀ k, k < 0 → parseFieldDescriptor (TJx29ce0 k).2.2.1 = some (tyJx29ce0 k) := by decide +kernel
abbrev cJx29ce0_ordinal_8abf5 : ByteArray := prog_18_method_2_code
def yJx29ce0_ordinal_8abf5 : MethodName := ⟨RJx29ce0, "ordinal", "()I"⟩
def RJ6 : String := "java/lang/Integer"
def TJ6 : u_T := fun k => match k with
  | _ => ("", "", "", false)
def tyJ6 : Nat → FieldType := fun k => match k with
  | _ => .int
abbrev wsJ60 : List Cond := u_ws RJ6 TJ6 0
theorem nmJ6 : ∀ a, a < 0 → ∀ b, b < 0 → a ≠ b → (TJ6 a).2.1 ≠ (TJ6 b).2.1 := by decide +kernel
theorem tyJ6_ok : ∀ k, k < 0 → parseFieldDescriptor (TJ6 k).2.2.1 = some (tyJ6 k) := by decide +kernel
abbrev cJ6_getChars_ba4f3 : ByteArray := prog_23_method_12_code
def yJ6_getChars_ba4f3 : MethodName := ⟨RJ6, "getChars", "(II[B)I"⟩
abbrev cJ6_stringSize_0f7a4 : ByteArray := prog_23_method_13_code
def yJ6_stringSize_0f7a4 : MethodName := ⟨RJ6, "stringSize", "(I)I"⟩
def RJ9 : String := "java/lang/Math"
def TJ9 : u_T := fun k => match k with
  | _ => ("", "", "", false)
def tyJ9 : Nat → FieldType := fun k => match k with
  | _ => .int
abbrev wsJ90 : List Cond := u_ws RJ9 TJ9 0
theorem nmJ9 : ∀ a, a < 0 → ∀ b, b < 0 → a ≠ b → (TJ9 a).2.1 ≠ (TJ9 b).2.1 := by decide +kernel
theorem tyJ9_ok : ∀ k, k < 0 → parseFieldDescriptor (TJ9 k).2.2.1 = some (tyJ9 k) := by decide +kernel
abbrev cJ9_abs_0f7a4 : ByteArray := prog_24_method_59_code
def yJ9_abs_0f7a4 : MethodName := ⟨RJ9, "abs", "(I)I"⟩
abbrev cJ9_max_7cf53 : ByteArray := prog_24_method_65_code
def yJ9_max_7cf53 : MethodName := ⟨RJ9, "max", "(II)I"⟩
abbrev cJ9_min_7cf53 : ByteArray := prog_24_method_69_code
def yJ9_min_7cf53 : MethodName := ⟨RJ9, "min", "(II)I"⟩
def RJxd2413 : String := "java/lang/Number"
def TJxd2413 : u_T := fun k => match k with
  | _ => ("", "", "", false)
def tyJxd2413 : Nat → FieldType := fun k => match k with
  | _ => .int
abbrev wsJxd24130 : List Cond := u_ws RJxd2413 TJxd2413 0
theorem nmJxd2413 : ∀ a, a < 0 → ∀ b, b < 0 → a ≠ b → (TJxd2413 a).2.1 ≠ (TJxd2413 b).2.1 := by decide +kernel
theorem tyJxd2413_ok : ∀ k, k < 0 → parseFieldDescriptor (TJxd2413 k).2.2.1 = some (tyJxd2413 k) := by decide +kernel
def RJ0 : String := "java/lang/String"
def TJ0 : u_T := fun k => match k with
  | 0 => ("java/lang/String", "value", "[B", true)
  | 1 => ("java/lang/String", "coder", "B", true)
  | 2 => ("java/lang/String", "hash", "I", false)
  | _ => ("java/lang/String", "hashIsZero", "Z", false)
def tyJ0 : Nat → FieldType := fun k => match k with
  | 0 => .array .byte
  | 1 => .byte
  | 2 => .int
  | _ => .boolean
abbrev wsJ00 : List Cond := u_ws RJ0 TJ0 4
theorem nmJ0 : ∀ a, a < 4 → ∀ b, b < 4 → a ≠ b → (TJ0 a).2.1 ≠ (TJ0 b).2.1 := by decide +kernel
theorem tyJ0_ok : ∀ k, k < 4 → parseFieldDescriptor (TJ0 k).2.2.1 = some (tyJ0 k) := by decide +kernel
abbrev cJ0_init_81219 : ByteArray := prog_27_method_53_code
def yJ0_init_81219 : MethodName := ⟨RJ0, "<init>", "(Ljava/lang/StringBuilder;)V"⟩
abbrev cJ0_length_8abf5 : ByteArray := prog_27_method_54_code
def yJ0_length_8abf5 : MethodName := ⟨RJ0, "length", "()I"⟩
abbrev cJ0_charAt_5068e : ByteArray := prog_27_method_56_code
def yJ0_charAt_5068e : MethodName := ⟨RJ0, "charAt", "(I)C"⟩
abbrev cJ0_getBytes_840e7 : ByteArray := prog_27_method_147_code
def yJ0_getBytes_840e7 : MethodName := ⟨RJ0, "getBytes", "([BIB)V"⟩
abbrev cJ0_init_db425 : ByteArray := prog_27_method_150_code
def yJ0_init_db425 : MethodName := ⟨RJ0, "<init>", "(Ljava/lang/AbstractStringBuilder;Ljava/lang/Void;)V"⟩
abbrev cJ0_coder_7d493 : ByteArray := prog_27_method_152_code
def yJ0_coder_7d493 : MethodName := ⟨RJ0, "coder", "()B"⟩
abbrev cJ0_isLatin1_aae02 : ByteArray := prog_27_method_154_code
def yJ0_isLatin1_aae02 : MethodName := ⟨RJ0, "isLatin1", "()Z"⟩
abbrev cJ0_checkIndex_df160 : ByteArray := prog_27_method_155_code
def yJ0_checkIndex_df160 : MethodName := ⟨RJ0, "checkIndex", "(II)V"⟩
abbrev cJ0_checkBoundsOffCount_cabcc : ByteArray := prog_27_method_157_code
def yJ0_checkBoundsOffCount_cabcc : MethodName := ⟨RJ0, "checkBoundsOffCount", "(III)I"⟩
abbrev cJ0_checkBoundsBeginEnd_23922 : ByteArray := prog_27_method_158_code
def yJ0_checkBoundsBeginEnd_23922 : MethodName := ⟨RJ0, "checkBoundsBeginEnd", "(III)V"⟩
def RJ4 : String := "java/lang/StringBuilder"
def TJ4 : u_T := fun k => match k with
  | 0 => ("java/lang/AbstractStringBuilder", "value", "[B", false)
  | 1 => ("java/lang/AbstractStringBuilder", "coder", "B", false)
  | 2 => ("java/lang/AbstractStringBuilder", "maybeLatin1", "Z", false)
  | _ => ("java/lang/AbstractStringBuilder", "count", "I", false)
def tyJ4 : Nat → FieldType := fun k => match k with
  | 0 => .array .byte
  | 1 => .byte
  | 2 => .boolean
  | _ => .int
abbrev wsJ40 : List Cond := u_ws RJ4 TJ4 4
theorem nmJ4 : ∀ a, a < 4 → ∀ b, b < 4 → a ≠ b → (TJ4 a).2.1 ≠ (TJ4 b).2.1 := by decide +kernel
theorem tyJ4_ok : ∀ k, k < 4 → parseFieldDescriptor (TJ4 k).2.2.1 = some (tyJ4 k) := by decide +kernel
abbrev cJ4_init_da8c8 : ByteArray := prog_28_method_1_code
def yJ4_init_da8c8 : MethodName := ⟨RJ4, "<init>", "()V"⟩
abbrev cJ4_append_15ec4 : ByteArray := prog_28_method_7_code
def yJ4_append_15ec4 : MethodName := ⟨RJ4, "append", "(Ljava/lang/String;)Ljava/lang/StringBuilder;"⟩
abbrev cJ4_append_cf468 : ByteArray := prog_28_method_14_code
def yJ4_append_cf468 : MethodName := ⟨RJ4, "append", "(C)Ljava/lang/StringBuilder;"⟩
abbrev cJ4_append_bf812 : ByteArray := prog_28_method_15_code
def yJ4_append_bf812 : MethodName := ⟨RJ4, "append", "(I)Ljava/lang/StringBuilder;"⟩
abbrev cJ4_toString_0e30d : ByteArray := prog_28_method_42_code
def yJ4_toString_0e30d : MethodName := ⟨RJ4, "toString", "()Ljava/lang/String;"⟩
abbrev cJ4_charAt_5068e : ByteArray := prog_28_method_88_code
def yJ4_charAt_5068e : MethodName := ⟨RJ4, "charAt", "(I)C"⟩
abbrev cJ4_setLength_d00df : ByteArray := prog_28_method_89_code
def yJ4_setLength_d00df : MethodName := ⟨RJ4, "setLength", "(I)V"⟩
abbrev cJ4_length_8abf5 : ByteArray := prog_28_method_93_code
def yJ4_length_8abf5 : MethodName := ⟨RJ4, "length", "()I"⟩
def RJx7c733 : String := "java/lang/StringIndexOutOfBoundsException"
def TJx7c733 : u_T := fun k => match k with
  | 0 => ("java/lang/Throwable", "backtrace", "Ljava/lang/Object;", false)
  | 1 => ("java/lang/Throwable", "detailMessage", "Ljava/lang/String;", false)
  | 2 => ("java/lang/Throwable", "cause", "Ljava/lang/Throwable;", false)
  | 3 => ("java/lang/Throwable", "stackTrace", "[Ljava/lang/StackTraceElement;", false)
  | 4 => ("java/lang/Throwable", "depth", "I", false)
  | _ => ("java/lang/Throwable", "suppressedExceptions", "Ljava/util/List;", false)
def tyJx7c733 : Nat → FieldType := fun k => match k with
  | 0 => .object "java/lang/Object"
  | 1 => .object "java/lang/String"
  | 2 => .object "java/lang/Throwable"
  | 3 => .array (.object "java/lang/StackTraceElement")
  | 4 => .int
  | _ => .object "java/util/List"
abbrev wsJx7c7330 : List Cond := u_ws RJx7c733 TJx7c733 6
theorem nmJx7c733 : ∀ a, a < 6 → ∀ b, b < 6 → a ≠ b → (TJx7c733 a).2.1 ≠ (TJx7c733 b).2.1 := by decide +kernel
theorem tyJx7c733_ok : ∀ k, k < 6 → parseFieldDescriptor (TJx7c733 k).2.2.1 = some (tyJx7c733 k) := by decide +kernel
abbrev cJx7c733_init_d00df : ByteArray := prog_29_method_3_code
def yJx7c733_init_d00df : MethodName := ⟨RJx7c733, "<init>", "(I)V"⟩
def RJ1 : String := "java/lang/StringLatin1"
def TJ1 : u_T := fun k => match k with
  | _ => ("", "", "", false)
def tyJ1 : Nat → FieldType := fun k => match k with
  | _ => .int
abbrev wsJ10 : List Cond := u_ws RJ1 TJ1 0
theorem nmJ1 : ∀ a, a < 0 → ∀ b, b < 0 → a ≠ b → (TJ1 a).2.1 ≠ (TJ1 b).2.1 := by decide +kernel
theorem tyJ1_ok : ∀ k, k < 0 → parseFieldDescriptor (TJ1 k).2.2.1 = some (tyJ1 k) := by decide +kernel
abbrev cJ1_charAt_3b067 : ByteArray := prog_30_method_2_code
def yJ1_charAt_3b067 : MethodName := ⟨RJ1, "charAt", "([BI)C"⟩
abbrev cJ1_canEncode_fc78d : ByteArray := prog_30_method_3_code
def yJ1_canEncode_fc78d : MethodName := ⟨RJ1, "canEncode", "(C)Z"⟩
abbrev cJ1_fillNull_b72d1 : ByteArray := prog_30_method_48_code
def yJ1_fillNull_b72d1 : MethodName := ⟨RJ1, "fillNull", "([BII)V"⟩
abbrev cJ1_inflate_0e8fd : ByteArray := prog_30_method_50_code
def yJ1_inflate_0e8fd : MethodName := ⟨RJ1, "inflate", "([BI[BII)V"⟩
def RJ2 : String := "java/lang/StringUTF16"
def TJ2 : u_T := fun k => match k with
  | _ => ("", "", "", false)
def tyJ2 : Nat → FieldType := fun k => match k with
  | _ => .int
abbrev wsJ20 : List Cond := u_ws RJ2 TJ2 0
theorem nmJ2 : ∀ a, a < 0 → ∀ b, b < 0 → a ≠ b → (TJ2 a).2.1 ≠ (TJ2 b).2.1 := by decide +kernel
theorem tyJ2_ok : ∀ k, k < 0 → parseFieldDescriptor (TJ2 k).2.2.1 = some (tyJ2 k) := by decide +kernel
abbrev cJ2_newBytesFor_77867 : ByteArray := prog_31_method_2_code
def yJ2_newBytesFor_77867 : MethodName := ⟨RJ2, "newBytesFor", "(I)[B"⟩
abbrev cJ2_newBytesLength_0f7a4 : ByteArray := prog_31_method_3_code
def yJ2_newBytesLength_0f7a4 : MethodName := ⟨RJ2, "newBytesLength", "(I)I"⟩
abbrev cJ2_putChar_b72d1 : ByteArray := prog_31_method_4_code
def yJ2_putChar_b72d1 : MethodName := ⟨RJ2, "putChar", "([BII)V"⟩
abbrev cJ2_getChar_3b067 : ByteArray := prog_31_method_5_code
def yJ2_getChar_3b067 : MethodName := ⟨RJ2, "getChar", "([BI)C"⟩
abbrev cJ2_length_9d52b : ByteArray := prog_31_method_6_code
def yJ2_length_9d52b : MethodName := ⟨RJ2, "length", "([B)I"⟩
abbrev cJ2_coderFromArrayLen_85cad : ByteArray := prog_31_method_15_code
def yJ2_coderFromArrayLen_85cad : MethodName := ⟨RJ2, "coderFromArrayLen", "([BI)B"⟩
abbrev cJ2_compress_39247 : ByteArray := prog_31_method_17_code
def yJ2_compress_39247 : MethodName := ⟨RJ2, "compress", "([BII)[B"⟩
abbrev cJ2_compress_5af95 : ByteArray := prog_31_method_22_code
def yJ2_compress_5af95 : MethodName := ⟨RJ2, "compress", "([BI[BII)I"⟩
abbrev cJ2_fillNull_b72d1 : ByteArray := prog_31_method_70_code
def yJ2_fillNull_b72d1 : MethodName := ⟨RJ2, "fillNull", "([BII)V"⟩
abbrev cJ2_putCharSB_b72d1 : ByteArray := prog_31_method_71_code
def yJ2_putCharSB_b72d1 : MethodName := ⟨RJ2, "putCharSB", "([BII)V"⟩
abbrev cJ2_getChars_46870 : ByteArray := prog_31_method_77_code
def yJ2_getChars_46870 : MethodName := ⟨RJ2, "getChars", "(III[B)I"⟩
abbrev cJ2_putCharsAt_cd4e5 : ByteArray := prog_31_method_81_code
def yJ2_putCharsAt_cd4e5 : MethodName := ⟨RJ2, "putCharsAt", "([BICCCC)I"⟩
abbrev cJ2_charAt_3b067 : ByteArray := prog_31_method_83_code
def yJ2_charAt_3b067 : MethodName := ⟨RJ2, "charAt", "([BI)C"⟩
abbrev cJ2_inflate_0e8fd : ByteArray := prog_31_method_86_code
def yJ2_inflate_0e8fd : MethodName := ⟨RJ2, "inflate", "([BI[BII)V"⟩
abbrev cJ2_getChars_ba4f3 : ByteArray := prog_31_method_89_code
def yJ2_getChars_ba4f3 : MethodName := ⟨RJ2, "getChars", "(II[B)I"⟩
abbrev cJ2_checkIndex_2214a : ByteArray := prog_31_method_91_code
def yJ2_checkIndex_2214a : MethodName := ⟨RJ2, "checkIndex", "(I[B)V"⟩
abbrev cJ2_checkBoundsBeginEnd_d044e : ByteArray := prog_31_method_93_code
def yJ2_checkBoundsBeginEnd_d044e : MethodName := ⟨RJ2, "checkBoundsBeginEnd", "(II[B)V"⟩
abbrev cJ2_checkBoundsOffCount_d044e : ByteArray := prog_31_method_94_code
def yJ2_checkBoundsOffCount_d044e : MethodName := ⟨RJ2, "checkBoundsOffCount", "(II[B)V"⟩
def RJ10 : String := "java/lang/System"
def TJ10 : u_T := fun k => match k with
  | _ => ("", "", "", false)
def tyJ10 : Nat → FieldType := fun k => match k with
  | _ => .int
abbrev wsJ100 : List Cond := u_ws RJ10 TJ10 0
theorem nmJ10 : ∀ a, a < 0 → ∀ b, b < 0 → a ≠ b → (TJ10 a).2.1 ≠ (TJ10 b).2.1 := by decide +kernel
theorem tyJ10_ok : ∀ k, k < 0 → parseFieldDescriptor (TJ10 k).2.2.1 = some (tyJ10 k) := by decide +kernel
def RJxfd54e : String := "java/lang/constant/Constable"
def TJxfd54e : u_T := fun k => match k with
  | _ => ("", "", "", false)
def tyJxfd54e : Nat → FieldType := fun k => match k with
  | _ => .int
abbrev wsJxfd54e0 : List Cond := u_ws RJxfd54e TJxfd54e 0
theorem nmJxfd54e : ∀ a, a < 0 → ∀ b, b < 0 → a ≠ b → (TJxfd54e a).2.1 ≠ (TJxfd54e b).2.1 := by decide +kernel
theorem tyJxfd54e_ok : ∀ k, k < 0 → parseFieldDescriptor (TJxfd54e k).2.2.1 = some (tyJxfd54e k) := by decide +kernel
def RJx3cf43 : String := "java/lang/constant/ConstantDesc"
def TJx3cf43 : u_T := fun k => match k with
  | _ => ("", "", "", false)
def tyJx3cf43 : Nat → FieldType := fun k => match k with
  | _ => .int
abbrev wsJx3cf430 : List Cond := u_ws RJx3cf43 TJx3cf43 0
theorem nmJx3cf43 : ∀ a, a < 0 → ∀ b, b < 0 → a ≠ b → (TJx3cf43 a).2.1 ≠ (TJx3cf43 b).2.1 := by decide +kernel
theorem tyJx3cf43_ok : ∀ k, k < 0 → parseFieldDescriptor (TJx3cf43 k).2.2.1 = some (tyJx3cf43 k) := by decide +kernel
def RJ7 : String := "java/util/Arrays"
def TJ7 : u_T := fun k => match k with
  | _ => ("", "", "", false)
def tyJ7 : Nat → FieldType := fun k => match k with
  | _ => .int
abbrev wsJ70 : List Cond := u_ws RJ7 TJ7 0
theorem nmJ7 : ∀ a, a < 0 → ∀ b, b < 0 → a ≠ b → (TJ7 a).2.1 ≠ (TJ7 b).2.1 := by decide +kernel
theorem tyJ7_ok : ∀ k, k < 0 → parseFieldDescriptor (TJ7 k).2.2.1 = some (tyJ7 k) := by decide +kernel
abbrev cJ7_rangeCheck_23922 : ByteArray := prog_37_method_30_code
def yJ7_rangeCheck_23922 : MethodName := ⟨RJ7, "rangeCheck", "(III)V"⟩
abbrev cJ7_fill_eb02e : ByteArray := prog_37_method_110_code
def yJ7_fill_eb02e : MethodName := ⟨RJ7, "fill", "([BIIB)V"⟩
abbrev cJ7_copyOf_9075b : ByteArray := prog_37_method_121_code
def yJ7_copyOf_9075b : MethodName := ⟨RJ7, "copyOf", "([BI)[B"⟩
abbrev cJ7_checkLength_df160 : ByteArray := prog_37_method_131_code
def yJ7_checkLength_df160 : MethodName := ⟨RJ7, "checkLength", "(II)V"⟩
abbrev cJ7_copyOfRange_39247 : ByteArray := prog_37_method_132_code
def yJ7_copyOfRange_39247 : MethodName := ⟨RJ7, "copyOfRange", "([BII)[B"⟩
abbrev cJ7_copyOfRangeByte_39247 : ByteArray := prog_37_method_133_code
def yJ7_copyOfRangeByte_39247 : MethodName := ⟨RJ7, "copyOfRangeByte", "([BII)[B"⟩
def RJ8 : String := "jdk/internal/util/ArraysSupport"
def TJ8 : u_T := fun k => match k with
  | _ => ("", "", "", false)
def tyJ8 : Nat → FieldType := fun k => match k with
  | _ => .int
abbrev wsJ80 : List Cond := u_ws RJ8 TJ8 0
theorem nmJ8 : ∀ a, a < 0 → ∀ b, b < 0 → a ≠ b → (TJ8 a).2.1 ≠ (TJ8 b).2.1 := by decide +kernel
theorem tyJ8_ok : ∀ k, k < 0 → parseFieldDescriptor (TJ8 k).2.2.1 = some (tyJ8 k) := by decide +kernel
abbrev cJ8_newLength_cabcc : ByteArray := prog_39_method_27_code
def yJ8_newLength_cabcc : MethodName := ⟨RJ8, "newLength", "(III)I"⟩
abbrev cJ8_hugeLength_7cf53 : ByteArray := prog_39_method_28_code
def yJ8_hugeLength_7cf53 : MethodName := ⟨RJ8, "hugeLength", "(II)I"⟩
def RJ3 : String := "jdk/internal/util/Preconditions"
def TJ3 : u_T := fun k => match k with
  | _ => ("", "", "", false)
def tyJ3 : Nat → FieldType := fun k => match k with
  | _ => .int
abbrev wsJ30 : List Cond := u_ws RJ3 TJ3 0
theorem nmJ3 : ∀ a, a < 0 → ∀ b, b < 0 → a ≠ b → (TJ3 a).2.1 ≠ (TJ3 b).2.1 := by decide +kernel
theorem tyJ3_ok : ∀ k, k < 0 → parseFieldDescriptor (TJ3 k).2.2.1 = some (tyJ3 k) := by decide +kernel
abbrev cJ3_checkIndex_8e157 : ByteArray := prog_40_method_11_code
def yJ3_checkIndex_8e157 : MethodName := ⟨RJ3, "checkIndex", "(IILjava/util/function/BiFunction;)I"⟩
abbrev cJ3_checkFromToIndex_8c36e : ByteArray := prog_40_method_12_code
def yJ3_checkFromToIndex_8c36e : MethodName := ⟨RJ3, "checkFromToIndex", "(IIILjava/util/function/BiFunction;)I"⟩
abbrev cJ3_checkFromIndexSize_8c36e : ByteArray := prog_40_method_13_code
def yJ3_checkFromIndexSize_8c36e : MethodName := ⟨RJ3, "checkFromIndexSize", "(IIILjava/util/function/BiFunction;)I"⟩
def RL : String := "BiscuitLocksLaw"
abbrev cL_cell : ByteArray := method_2_code
def yL_cell : MethodName := ⟨RL, "cell", "([II)I"⟩
abbrev cL_addDoor : ByteArray := method_3_code
def yL_addDoor : MethodName := ⟨RL, "addDoor", "(LBiscuitLocks;III)I"⟩
abbrev cL_turn : ByteArray := method_4_code
def yL_turn : MethodName := ⟨RL, "turn", "(LBiscuitLocks;III)I"⟩
abbrev cL_shut : ByteArray := method_5_code
def yL_shut : MethodName := ⟨RL, "shut", "(LBiscuitLocks;I)I"⟩
abbrev cL_setCombination : ByteArray := method_6_code
def yL_setCombination : MethodName := ⟨RL, "setCombination", "(LBiscuitLocks;IIII)I"⟩
abbrev cL_setDamp : ByteArray := method_7_code
def yL_setDamp : MethodName := ⟨RL, "setDamp", "(LBiscuitLocks;I)I"⟩
abbrev cL_bake : ByteArray := method_8_code
def yL_bake : MethodName := ⟨RL, "bake", "(LBiscuitLocks;II)I"⟩
abbrev cL_passHours : ByteArray := method_9_code
def yL_passHours : MethodName := ⟨RL, "passHours", "(LBiscuitLocks;I)I"⟩
abbrev cL_triesUntilBroken : ByteArray := method_10_code
def yL_triesUntilBroken : MethodName := ⟨RL, "triesUntilBroken", "(LBiscuitLocks;I)I"⟩
abbrev cL_dialAfter : ByteArray := method_11_code
def yL_dialAfter : MethodName := ⟨RL, "dialAfter", "(LBiscuitLocks;III)I"⟩
abbrev cL_hoursUntilFitting : ByteArray := method_12_code
def yL_hoursUntilFitting : MethodName := ⟨RL, "hoursUntilFitting", "(LBiscuitLocks;I)I"⟩
abbrev cL_bakedDoor : ByteArray := method_13_code
def yL_bakedDoor : MethodName := ⟨RL, "bakedDoor", "(LBiscuitLocks;I)I"⟩
abbrev cL_triedDoor : ByteArray := method_14_code
def yL_triedDoor : MethodName := ⟨RL, "triedDoor", "(LBiscuitLocks;I)I"⟩
abbrev cL_runScript : ByteArray := method_15_code
def yL_runScript : MethodName := ⟨RL, "runScript", "(LBiscuitLocks;)I"⟩
abbrev cL_undo : ByteArray := method_16_code
def yL_undo : MethodName := ⟨RL, "undo", "(LBiscuitLocks;)I"⟩
abbrev cL_restore : ByteArray := method_17_code
def yL_restore : MethodName := ⟨RL, "restore", "(LBiscuitLocks;)I"⟩
abbrev cL_tryLock : ByteArray := method_18_code
def yL_tryLock : MethodName := ⟨RL, "tryLock", "(LBiscuitLocks;I)I"⟩
abbrev cL_in : ByteArray := method_19_code
def yL_in : MethodName := ⟨RL, "in", "([III)I"⟩
abbrev cL_does : ByteArray := method_20_code
def yL_does : MethodName := ⟨RL, "does", "(LBiscuitLocks;Ljava/lang/String;)I"⟩
abbrev cL_begun : ByteArray := method_21_code
def yL_begun : MethodName := ⟨RL, "begun", "([I)LBiscuitLocks;"⟩
abbrev cL_acts : ByteArray := method_22_code
def yL_acts : MethodName := ⟨RL, "acts", "(LBiscuitLocks;[II)I"⟩
abbrev cL_seen : ByteArray := method_23_code
def yL_seen : MethodName := ⟨RL, "seen", "(LBiscuitLocks;)[I"⟩
abbrev cL_areAlike : ByteArray := method_24_code
def yL_areAlike : MethodName := ⟨RL, "areAlike", "([I[I)Z"⟩
abbrev cL_away : ByteArray := method_25_code
def yL_away : MethodName := ⟨RL, "away", "(LBiscuitLocks;II)I"⟩
abbrev cL_misfits : ByteArray := method_26_code
def yL_misfits : MethodName := ⟨RL, "misfits", "(LBiscuitLocks;II)I"⟩
abbrev cL_isWell : ByteArray := method_27_code
def yL_isWell : MethodName := ⟨RL, "isWell", "(LBiscuitLocks;)Z"⟩
abbrev cL_law : ByteArray := code
def yL_law : MethodName := ⟨RL, "law", "([I)Z"⟩
abbrev vwCl : List vw_C := [(RJ0, TJ0, 4), (RJ4, TJ4, 4), (RJx00060, TJx00060, 6), (RJx7c733, TJx7c733, 6), (RX2, TX2, 3), (RX3, TX3, 14), (RX4, TX4, 4), (RX6, TX6, 3), (RX7, TX7, 9)]
