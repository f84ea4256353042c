def RX0 : String := "BiscuitLocks$1"
def TX0 : u_T := fun k => match k with
  | _ => ("", "", "", false)
def tyX0 : Nat → FieldType := fun k => match k with
  | _ => .int
abbrev wsX00 : List Cond := u_ws RX0 TX0 0
theorem nmX0 : ∀ a, a < 0 → ∀ b, b < 0 → a ≠ b → (TX0 a).2.1 ≠ (TX0 b).2.1 := by decide +kernel
theorem tyX0_ok : ∀ k, k < 0 → parseFieldDescriptor (TX0 k).2.2.1 = some (tyX0 k) := by decide +kernel
def RX1 : String := "BiscuitLocks$Command"
def TX1 : u_T := fun k => match k with
  | _ => ("", "", "", false)
def tyX1 : Nat → FieldType := fun k => match k with
  | _ => .int
abbrev wsX10 : List Cond := u_ws RX1 TX1 0
theorem nmX1 : ∀ a, a < 0 → ∀ b, b < 0 → a ≠ b → (TX1 a).2.1 ≠ (TX1 b).2.1 := by decide +kernel
theorem tyX1_ok : ∀ k, k < 0 → parseFieldDescriptor (TX1 k).2.2.1 = some (tyX1 k) := by decide +kernel
def RX2 : String := "BiscuitLocks$History"
def TX2 : u_T := fun k => match k with
  | 0 => ("BiscuitLocks$History", "states", "[LBiscuitLocks$House;", true)
  | 1 => ("BiscuitLocks$History", "first", "I", false)
  | _ => ("BiscuitLocks$History", "count", "I", false)
def tyX2 : Nat → FieldType := fun k => match k with
  | 0 => .array (.object "BiscuitLocks$House")
  | 1 => .int
  | _ => .int
abbrev wsX20 : List Cond := u_ws RX2 TX2 3
theorem nmX2 : ∀ a, a < 3 → ∀ b, b < 3 → a ≠ b → (TX2 a).2.1 ≠ (TX2 b).2.1 := by decide +kernel
theorem tyX2_ok : ∀ k, k < 3 → parseFieldDescriptor (TX2 k).2.2.1 = some (tyX2 k) := by decide +kernel
abbrev cX2_init : ByteArray := prog_4_method_1_code
def yX2_init : MethodName := ⟨RX2, "<init>", "()V"⟩
abbrev cX2_push : ByteArray := prog_4_method_2_code
def yX2_push : MethodName := ⟨RX2, "push", "(LBiscuitLocks$House;)V"⟩
abbrev cX2_popInto : ByteArray := prog_4_method_3_code
def yX2_popInto : MethodName := ⟨RX2, "popInto", "(LBiscuitLocks$House;)V"⟩
def RX3 : String := "BiscuitLocks$House"
def TX3 : u_T := fun k => match k with
  | 0 => ("BiscuitLocks$House", "locks", "[LBiscuitLocks$Lock;", true)
  | 1 => ("BiscuitLocks$House", "ovenDoors", "[I", true)
  | 2 => ("BiscuitLocks$House", "ovenHours", "[I", true)
  | 3 => ("BiscuitLocks$House", "triedDoors", "[I", true)
  | 4 => ("BiscuitLocks$House", "triesOpened", "[Z", true)
  | 5 => ("BiscuitLocks$House", "doors", "I", false)
  | 6 => ("BiscuitLocks$House", "damp", "I", false)
  | 7 => ("BiscuitLocks$House", "hour", "I", false)
  | 8 => ("BiscuitLocks$House", "tries", "I", false)
  | 9 => ("BiscuitLocks$House", "opened", "I", false)
  | 10 => ("BiscuitLocks$House", "brokenByTry", "I", false)
  | 11 => ("BiscuitLocks$House", "shutAgain", "I", false)
  | 12 => ("BiscuitLocks$House", "putInWhileShut", "I", false)
  | _ => ("BiscuitLocks$House", "baked", "I", false)
def tyX3 : Nat → FieldType := fun k => match k with
  | 0 => .array (.object "BiscuitLocks$Lock")
  | 1 => .array .int
  | 2 => .array .int
  | 3 => .array .int
  | 4 => .array .boolean
  | 5 => .int
  | 6 => .int
  | 7 => .int
  | 8 => .int
  | 9 => .int
  | 10 => .int
  | 11 => .int
  | 12 => .int
  | _ => .int
abbrev wsX30 : List Cond := u_ws RX3 TX3 14
theorem nmX3 : ∀ a, a < 14 → ∀ b, b < 14 → a ≠ b → (TX3 a).2.1 ≠ (TX3 b).2.1 := by decide +kernel
theorem tyX3_ok : ∀ k, k < 14 → parseFieldDescriptor (TX3 k).2.2.1 = some (tyX3 k) := by decide +kernel
abbrev cX3_init : ByteArray := prog_5_method_1_code
def yX3_init : MethodName := ⟨RX3, "<init>", "()V"⟩
abbrev cX3_copyFrom : ByteArray := prog_5_method_2_code
def yX3_copyFrom : MethodName := ⟨RX3, "copyFrom", "(LBiscuitLocks$House;)V"⟩
abbrev cX3_hasDoor : ByteArray := prog_5_method_3_code
def yX3_hasDoor : MethodName := ⟨RX3, "hasDoor", "(I)Z"⟩
abbrev cX3_isInOven : ByteArray := prog_5_method_4_code
def yX3_isInOven : MethodName := ⟨RX3, "isInOven", "(I)Z"⟩
abbrev cX3_refusalOf : ByteArray := prog_5_method_5_code
def yX3_refusalOf : MethodName := ⟨RX3, "refusalOf", "(LBiscuitLocks$Command;IIII)LBiscuitLocks$Refusal;"⟩
abbrev cX3_refusalOfDoor : ByteArray := prog_5_method_6_code
def yX3_refusalOfDoor : MethodName := ⟨RX3, "refusalOfDoor", "(III)LBiscuitLocks$Refusal;"⟩
abbrev cX3_refusalOfTurn : ByteArray := prog_5_method_7_code
def yX3_refusalOfTurn : MethodName := ⟨RX3, "refusalOfTurn", "(III)LBiscuitLocks$Refusal;"⟩
abbrev cX3_refusalOfTry : ByteArray := prog_5_method_8_code
def yX3_refusalOfTry : MethodName := ⟨RX3, "refusalOfTry", "(I)LBiscuitLocks$Refusal;"⟩
abbrev cX3_refusalOfShut : ByteArray := prog_5_method_9_code
def yX3_refusalOfShut : MethodName := ⟨RX3, "refusalOfShut", "(I)LBiscuitLocks$Refusal;"⟩
abbrev cX3_refusalOfBake : ByteArray := prog_5_method_10_code
def yX3_refusalOfBake : MethodName := ⟨RX3, "refusalOfBake", "(II)LBiscuitLocks$Refusal;"⟩
abbrev cX3_refusalOfSet : ByteArray := prog_5_method_11_code
def yX3_refusalOfSet : MethodName := ⟨RX3, "refusalOfSet", "(IIII)LBiscuitLocks$Refusal;"⟩
abbrev cX3_carryOut : ByteArray := prog_5_method_12_code
def yX3_carryOut : MethodName := ⟨RX3, "carryOut", "(LBiscuitLocks$Command;IIII)I"⟩
abbrev cX3_addLock : ByteArray := prog_5_method_13_code
def yX3_addLock : MethodName := ⟨RX3, "addLock", "(III)I"⟩
abbrev cX3_tryDoor : ByteArray := prog_5_method_14_code
def yX3_tryDoor : MethodName := ⟨RX3, "tryDoor", "(I)Z"⟩
abbrev cX3_replaceDamp : ByteArray := prog_5_method_15_code
def yX3_replaceDamp : MethodName := ⟨RX3, "replaceDamp", "(I)I"⟩
abbrev cX3_putIn : ByteArray := prog_5_method_16_code
def yX3_putIn : MethodName := ⟨RX3, "putIn", "(II)I"⟩
abbrev cX3_letHoursPass : ByteArray := prog_5_method_17_code
def yX3_letHoursPass : MethodName := ⟨RX3, "letHoursPass", "(I)I"⟩
abbrev cX3_letHourPass : ByteArray := prog_5_method_18_code
def yX3_letHourPass : MethodName := ⟨RX3, "letHourPass", "()V"⟩
abbrev cX3_driftShutLocks : ByteArray := prog_5_method_19_code
def yX3_driftShutLocks : MethodName := ⟨RX3, "driftShutLocks", "(I)V"⟩
abbrev cX3_bakeOn : ByteArray := prog_5_method_20_code
def yX3_bakeOn : MethodName := ⟨RX3, "bakeOn", "(I)V"⟩
abbrev cX3_countRemembered : ByteArray := prog_5_method_21_code
def yX3_countRemembered : MethodName := ⟨RX3, "countRemembered", "()I"⟩
abbrev cX3_countShut : ByteArray := prog_5_method_22_code
def yX3_countShut : MethodName := ⟨RX3, "countShut", "()I"⟩
abbrev cX3_countShutByAccounts : ByteArray := prog_5_method_23_code
def yX3_countShutByAccounts : MethodName := ⟨RX3, "countShutByAccounts", "()I"⟩
abbrev cX3_rankByCrumbs : ByteArray := prog_5_method_24_code
def yX3_rankByCrumbs : MethodName := ⟨RX3, "rankByCrumbs", "(I)I"⟩
abbrev cX3_comesBefore : ByteArray := prog_5_method_25_code
def yX3_comesBefore : MethodName := ⟨RX3, "comesBefore", "(II)Z"⟩
def RX4 : String := "BiscuitLocks$Lock"
def TX4 : u_T := fun k => match k with
  | 0 => ("BiscuitLocks$Lock", "dials", "[I", true)
  | 1 => ("BiscuitLocks$Lock", "combination", "[I", true)
  | 2 => ("BiscuitLocks$Lock", "open", "Z", false)
  | _ => ("BiscuitLocks$Lock", "crumbs", "I", false)
def tyX4 : Nat → FieldType := fun k => match k with
  | 0 => .array .int
  | 1 => .array .int
  | 2 => .boolean
  | _ => .int
abbrev wsX40 : List Cond := u_ws RX4 TX4 4
theorem nmX4 : ∀ a, a < 4 → ∀ b, b < 4 → a ≠ b → (TX4 a).2.1 ≠ (TX4 b).2.1 := by decide +kernel
theorem tyX4_ok : ∀ k, k < 4 → parseFieldDescriptor (TX4 k).2.2.1 = some (tyX4 k) := by decide +kernel
abbrev cX4_init : ByteArray := prog_6_method_1_code
def yX4_init : MethodName := ⟨RX4, "<init>", "()V"⟩
abbrev cX4_copyFrom : ByteArray := prog_6_method_2_code
def yX4_copyFrom : MethodName := ⟨RX4, "copyFrom", "(LBiscuitLocks$Lock;)V"⟩
abbrev cX4_hasMostCrumbs : ByteArray := prog_6_method_3_code
def yX4_hasMostCrumbs : MethodName := ⟨RX4, "hasMostCrumbs", "()Z"⟩
abbrev cX4_playNow : ByteArray := prog_6_method_4_code
def yX4_playNow : MethodName := ⟨RX4, "playNow", "()I"⟩
abbrev cX4_distanceOf : ByteArray := prog_6_method_5_code
def yX4_distanceOf : MethodName := ⟨RX4, "distanceOf", "(I)I"⟩
abbrev cX4_countFitting : ByteArray := prog_6_method_6_code
def yX4_countFitting : MethodName := ⟨RX4, "countFitting", "()I"⟩
abbrev cX4_stepsByDistances : ByteArray := prog_6_method_7_code
def yX4_stepsByDistances : MethodName := ⟨RX4, "stepsByDistances", "()I"⟩
abbrev cX4_stepsByTurning : ByteArray := prog_6_method_8_code
def yX4_stepsByTurning : MethodName := ⟨RX4, "stepsByTurning", "(LBiscuitLocks$Lock;)I"⟩
abbrev cX4_turnUntilFitting : ByteArray := prog_6_method_9_code
def yX4_turnUntilFitting : MethodName := ⟨RX4, "turnUntilFitting", "(II)I"⟩
abbrev cX4_turnBy : ByteArray := prog_6_method_10_code
def yX4_turnBy : MethodName := ⟨RX4, "turnBy", "(II)I"⟩
abbrev cX4_takeTry : ByteArray := prog_6_method_11_code
def yX4_takeTry : MethodName := ⟨RX4, "takeTry", "()Z"⟩
abbrev cX4_setPositions : ByteArray := prog_6_method_12_code
def yX4_setPositions : MethodName := ⟨RX4, "setPositions", "(III)I"⟩
abbrev cX4_setPosition : ByteArray := prog_6_method_13_code
def yX4_setPosition : MethodName := ⟨RX4, "setPosition", "(II)I"⟩
abbrev cX4_renew : ByteArray := prog_6_method_14_code
def yX4_renew : MethodName := ⟨RX4, "renew", "()V"⟩
def RX5 : String := "BiscuitLocks$Refusal"
def TX5 : u_T := fun k => match k with
  | _ => ("", "", "", false)
def tyX5 : Nat → FieldType := fun k => match k with
  | _ => .int
abbrev wsX50 : List Cond := u_ws RX5 TX5 0
theorem nmX5 : ∀ a, a < 0 → ∀ b, b < 0 → a ≠ b → (TX5 a).2.1 ≠ (TX5 b).2.1 := by decide +kernel
theorem tyX5_ok : ∀ k, k < 0 → parseFieldDescriptor (TX5 k).2.2.1 = some (tyX5 k) := by decide +kernel
def RX6 : String := "BiscuitLocks$Script"
def TX6 : u_T := fun k => match k with
  | 0 => ("BiscuitLocks$Script", "text", "Ljava/lang/StringBuilder;", true)
  | 1 => ("BiscuitLocks$Script", "numbers", "[I", true)
  | _ => ("BiscuitLocks$Script", "place", "I", false)
def tyX6 : Nat → FieldType := fun k => match k with
  | 0 => .object "java/lang/StringBuilder"
  | 1 => .array .int
  | _ => .int
abbrev wsX60 : List Cond := u_ws RX6 TX6 3
theorem nmX6 : ∀ a, a < 3 → ∀ b, b < 3 → a ≠ b → (TX6 a).2.1 ≠ (TX6 b).2.1 := by decide +kernel
theorem tyX6_ok : ∀ k, k < 3 → parseFieldDescriptor (TX6 k).2.2.1 = some (tyX6 k) := by decide +kernel
abbrev cX6_init : ByteArray := prog_8_method_1_code
def yX6_init : MethodName := ⟨RX6, "<init>", "()V"⟩
abbrev cX6_countCommands : ByteArray := prog_8_method_2_code
def yX6_countCommands : MethodName := ⟨RX6, "countCommands", "()I"⟩
abbrev cX6_read : ByteArray := prog_8_method_3_code
def yX6_read : MethodName := ⟨RX6, "read", "(I)LBiscuitLocks$Command;"⟩
abbrev cX6_canEndAt : ByteArray := prog_8_method_4_code
def yX6_canEndAt : MethodName := ⟨RX6, "canEndAt", "(I)Z"⟩
abbrev cX6_countMatching : ByteArray := prog_8_method_5_code
def yX6_countMatching : MethodName := ⟨RX6, "countMatching", "(Ljava/lang/String;I)I"⟩
abbrev cX6_isOf : ByteArray := prog_8_method_6_code
def yX6_isOf : MethodName := ⟨RX6, "isOf", "(CC)Z"⟩
abbrev cX6_readNumbers : ByteArray := prog_8_method_7_code
def yX6_readNumbers : MethodName := ⟨RX6, "readNumbers", "(Ljava/lang/String;I)V"⟩
def RX7 : String := "BiscuitLocks"
def TX7 : u_T := fun k => match k with
  | 0 => ("BiscuitLocks", "house", "LBiscuitLocks$House;", true)
  | 1 => ("BiscuitLocks", "spare", "LBiscuitLocks$House;", true)
  | 2 => ("BiscuitLocks", "snapshot", "LBiscuitLocks$House;", true)
  | 3 => ("BiscuitLocks", "history", "LBiscuitLocks$History;", true)
  | 4 => ("BiscuitLocks", "script", "LBiscuitLocks$Script;", true)
  | 5 => ("BiscuitLocks", "output", "Ljava/lang/StringBuilder;", true)
  | 6 => ("BiscuitLocks", "saved", "Z", false)
  | 7 => ("BiscuitLocks", "errorPlace", "I", false)
  | _ => ("BiscuitLocks", "failedPlace", "I", false)
def tyX7 : Nat → FieldType := fun k => match k with
  | 0 => .object "BiscuitLocks$House"
  | 1 => .object "BiscuitLocks$House"
  | 2 => .object "BiscuitLocks$House"
  | 3 => .object "BiscuitLocks$History"
  | 4 => .object "BiscuitLocks$Script"
  | 5 => .object "java/lang/StringBuilder"
  | 6 => .boolean
  | 7 => .int
  | _ => .int
abbrev wsX70 : List Cond := u_ws RX7 TX7 9
theorem nmX7 : ∀ a, a < 9 → ∀ b, b < 9 → a ≠ b → (TX7 a).2.1 ≠ (TX7 b).2.1 := by decide +kernel
theorem tyX7_ok : ∀ k, k < 9 → parseFieldDescriptor (TX7 k).2.2.1 = some (tyX7 k) := by decide +kernel
abbrev cX7_init : ByteArray := prog_1_method_1_code
def yX7_init : MethodName := ⟨RX7, "<init>", "()V"⟩
abbrev cX7_addDoor : ByteArray := prog_1_method_2_code
def yX7_addDoor : MethodName := ⟨RX7, "addDoor", "(III)I"⟩
abbrev cX7_turn : ByteArray := prog_1_method_3_code
def yX7_turn : MethodName := ⟨RX7, "turn", "(III)I"⟩
abbrev cX7_tryLock : ByteArray := prog_1_method_4_code
def yX7_tryLock : MethodName := ⟨RX7, "tryLock", "(I)Z"⟩
abbrev cX7_shut : ByteArray := prog_1_method_5_code
def yX7_shut : MethodName := ⟨RX7, "shut", "(I)I"⟩
abbrev cX7_setCombination : ByteArray := prog_1_method_6_code
def yX7_setCombination : MethodName := ⟨RX7, "setCombination", "(IIII)I"⟩
abbrev cX7_setDamp : ByteArray := prog_1_method_7_code
def yX7_setDamp : MethodName := ⟨RX7, "setDamp", "(I)I"⟩
abbrev cX7_bake : ByteArray := prog_1_method_8_code
def yX7_bake : MethodName := ⟨RX7, "bake", "(II)I"⟩
abbrev cX7_passHours : ByteArray := prog_1_method_9_code
def yX7_passHours : MethodName := ⟨RX7, "passHours", "(I)I"⟩
abbrev cX7_change : ByteArray := prog_1_method_10_code
def yX7_change : MethodName := ⟨RX7, "change", "(LBiscuitLocks$Command;IIII)I"⟩
abbrev cX7_throwFor : ByteArray := prog_1_method_11_code
def yX7_throwFor : MethodName := ⟨RX7, "throwFor", "(LBiscuitLocks$Refusal;)V"⟩
abbrev cX7_doorCount : ByteArray := prog_1_method_12_code
def yX7_doorCount : MethodName := ⟨RX7, "doorCount", "()I"⟩
abbrev cX7_dial : ByteArray := prog_1_method_13_code
def yX7_dial : MethodName := ⟨RX7, "dial", "(II)I"⟩
abbrev cX7_combination : ByteArray := prog_1_method_14_code
def yX7_combination : MethodName := ⟨RX7, "combination", "(II)I"⟩
abbrev cX7_isOpen : ByteArray := prog_1_method_15_code
def yX7_isOpen : MethodName := ⟨RX7, "isOpen", "(I)Z"⟩
abbrev cX7_isBroken : ByteArray := prog_1_method_16_code
def yX7_isBroken : MethodName := ⟨RX7, "isBroken", "(I)Z"⟩
abbrev cX7_crumbs : ByteArray := prog_1_method_17_code
def yX7_crumbs : MethodName := ⟨RX7, "crumbs", "(I)I"⟩
abbrev cX7_play : ByteArray := prog_1_method_18_code
def yX7_play : MethodName := ⟨RX7, "play", "(I)I"⟩
abbrev cX7_fittingDials : ByteArray := prog_1_method_19_code
def yX7_fittingDials : MethodName := ⟨RX7, "fittingDials", "(I)I"⟩
abbrev cX7_stepsToOpen : ByteArray := prog_1_method_20_code
def yX7_stepsToOpen : MethodName := ⟨RX7, "stepsToOpen", "(I)I"⟩
abbrev cX7_stepsToOpenByTurning : ByteArray := prog_1_method_21_code
def yX7_stepsToOpenByTurning : MethodName := ⟨RX7, "stepsToOpenByTurning", "(I)I"⟩
abbrev cX7_openingSettings : ByteArray := prog_1_method_22_code
def yX7_openingSettings : MethodName := ⟨RX7, "openingSettings", "(I)I"⟩
abbrev cX7_lockOf : ByteArray := prog_1_method_23_code
def yX7_lockOf : MethodName := ⟨RX7, "lockOf", "(I)LBiscuitLocks$Lock;"⟩
abbrev cX7_requireDial : ByteArray := prog_1_method_24_code
def yX7_requireDial : MethodName := ⟨RX7, "requireDial", "(I)V"⟩
abbrev cX7_triesUntilBroken : ByteArray := prog_1_method_25_code
def yX7_triesUntilBroken : MethodName := ⟨RX7, "triesUntilBroken", "(I)I"⟩
abbrev cX7_dialAfter : ByteArray := prog_1_method_26_code
def yX7_dialAfter : MethodName := ⟨RX7, "dialAfter", "(III)I"⟩
abbrev cX7_hoursUntilFitting : ByteArray := prog_1_method_27_code
def yX7_hoursUntilFitting : MethodName := ⟨RX7, "hoursUntilFitting", "(I)I"⟩
abbrev cX7_bakedDoor : ByteArray := prog_1_method_28_code
def yX7_bakedDoor : MethodName := ⟨RX7, "bakedDoor", "(I)I"⟩
abbrev cX7_bakingHours : ByteArray := prog_1_method_29_code
def yX7_bakingHours : MethodName := ⟨RX7, "bakingHours", "(I)I"⟩
abbrev cX7_isBaking : ByteArray := prog_1_method_30_code
def yX7_isBaking : MethodName := ⟨RX7, "isBaking", "(I)Z"⟩
abbrev cX7_requireOven : ByteArray := prog_1_method_31_code
def yX7_requireOven : MethodName := ⟨RX7, "requireOven", "(I)V"⟩
abbrev cX7_doorByCrumbs : ByteArray := prog_1_method_32_code
def yX7_doorByCrumbs : MethodName := ⟨RX7, "doorByCrumbs", "(I)I"⟩
abbrev cX7_rememberedTries : ByteArray := prog_1_method_33_code
def yX7_rememberedTries : MethodName := ⟨RX7, "rememberedTries", "()I"⟩
abbrev cX7_triedDoor : ByteArray := prog_1_method_34_code
def yX7_triedDoor : MethodName := ⟨RX7, "triedDoor", "(I)I"⟩
abbrev cX7_didOpen : ByteArray := prog_1_method_35_code
def yX7_didOpen : MethodName := ⟨RX7, "didOpen", "(I)Z"⟩
abbrev cX7_requireRemembered : ByteArray := prog_1_method_36_code
def yX7_requireRemembered : MethodName := ⟨RX7, "requireRemembered", "(I)V"⟩
abbrev cX7_shutLocks : ByteArray := prog_1_method_37_code
def yX7_shutLocks : MethodName := ⟨RX7, "shutLocks", "()I"⟩
abbrev cX7_shutLocksByAccounts : ByteArray := prog_1_method_38_code
def yX7_shutLocksByAccounts : MethodName := ⟨RX7, "shutLocksByAccounts", "()I"⟩
abbrev cX7_damp : ByteArray := prog_1_method_39_code
def yX7_damp : MethodName := ⟨RX7, "damp", "()I"⟩
abbrev cX7_hour : ByteArray := prog_1_method_40_code
def yX7_hour : MethodName := ⟨RX7, "hour", "()I"⟩
abbrev cX7_tryTotal : ByteArray := prog_1_method_41_code
def yX7_tryTotal : MethodName := ⟨RX7, "tryTotal", "()I"⟩
abbrev cX7_openedTotal : ByteArray := prog_1_method_42_code
def yX7_openedTotal : MethodName := ⟨RX7, "openedTotal", "()I"⟩
abbrev cX7_bakedTotal : ByteArray := prog_1_method_43_code
def yX7_bakedTotal : MethodName := ⟨RX7, "bakedTotal", "()I"⟩
abbrev cX7_meanCrumbs : ByteArray := prog_1_method_44_code
def yX7_meanCrumbs : MethodName := ⟨RX7, "meanCrumbs", "()D"⟩
abbrev cX7_openedShare : ByteArray := prog_1_method_45_code
def yX7_openedShare : MethodName := ⟨RX7, "openedShare", "()F"⟩
abbrev cX7_isConsistent : ByteArray := prog_1_method_46_code
def yX7_isConsistent : MethodName := ⟨RX7, "isConsistent", "()Z"⟩
abbrev cX7_renderLock : ByteArray := prog_1_method_47_code
def yX7_renderLock : MethodName := ⟨RX7, "renderLock", "(I)I"⟩
abbrev cX7_appendPositions : ByteArray := prog_1_method_48_code
def yX7_appendPositions : MethodName := ⟨RX7, "appendPositions", "([I)V"⟩
abbrev cX7_renderOvens : ByteArray := prog_1_method_49_code
def yX7_renderOvens : MethodName := ⟨RX7, "renderOvens", "()I"⟩
abbrev cX7_outputAt : ByteArray := prog_1_method_50_code
def yX7_outputAt : MethodName := ⟨RX7, "outputAt", "(I)C"⟩
abbrev cX7_type : ByteArray := prog_1_method_51_code
def yX7_type : MethodName := ⟨RX7, "type", "(C)I"⟩
abbrev cX7_runScript : ByteArray := prog_1_method_52_code
def yX7_runScript : MethodName := ⟨RX7, "runScript", "()I"⟩
abbrev cX7_carryOutCommands : ByteArray := prog_1_method_53_code
def yX7_carryOutCommands : MethodName := ⟨RX7, "carryOutCommands", "(I)I"⟩
abbrev cX7_errorPosition : ByteArray := prog_1_method_54_code
def yX7_errorPosition : MethodName := ⟨RX7, "errorPosition", "()I"⟩
abbrev cX7_failedCommand : ByteArray := prog_1_method_55_code
def yX7_failedCommand : MethodName := ⟨RX7, "failedCommand", "()I"⟩
abbrev cX7_undo : ByteArray := prog_1_method_56_code
def yX7_undo : MethodName := ⟨RX7, "undo", "()I"⟩
abbrev cX7_save : ByteArray := prog_1_method_57_code
def yX7_save : MethodName := ⟨RX7, "save", "()I"⟩
abbrev cX7_restore : ByteArray := prog_1_method_58_code
def yX7_restore : MethodName := ⟨RX7, "restore", "()I"⟩
abbrev cX7_isDial : ByteArray := prog_1_method_59_code
def yX7_isDial : MethodName := ⟨RX7, "isDial", "(I)Z"⟩
abbrev cX7_isOven : ByteArray := prog_1_method_60_code
def yX7_isOven : MethodName := ⟨RX7, "isOven", "(I)Z"⟩
abbrev cX7_isPosition : ByteArray := prog_1_method_61_code
def yX7_isPosition : MethodName := ⟨RX7, "isPosition", "(I)Z"⟩
abbrev cX7_areNoPositions : ByteArray := prog_1_method_62_code
def yX7_areNoPositions : MethodName := ⟨RX7, "areNoPositions", "(III)Z"⟩
def RX8 : String := "BiscuitLocksModel"
def TX8 : u_T := fun k => match k with
  | 0 => ("BiscuitLocksModel", "s", "[I", true)
  | 1 => ("BiscuitLocksModel", "was", "[I", true)
  | 2 => ("BiscuitLocksModel", "tried", "[I", true)
  | 3 => ("BiscuitLocksModel", "saved", "[I", true)
  | 4 => ("BiscuitLocksModel", "past", "[I", true)
  | 5 => ("BiscuitLocksModel", "changes", "I", false)
  | 6 => ("BiscuitLocksModel", "thrown", "I", false)
  | 7 => ("BiscuitLocksModel", "errorAt", "I", false)
  | 8 => ("BiscuitLocksModel", "failedAt", "I", false)
  | 9 => ("BiscuitLocksModel", "answer", "I", false)
  | 10 => ("BiscuitLocksModel", "isSaved", "Z", false)
  | 11 => ("BiscuitLocksModel", "line", "[I", true)
  | 12 => ("BiscuitLocksModel", "lined", "I", false)
  | 13 => ("BiscuitLocksModel", "tape", "[I", true)
  | 14 => ("BiscuitLocksModel", "commands", "[I", true)
  | 15 => ("BiscuitLocksModel", "taped", "I", false)
  | 16 => ("BiscuitLocksModel", "here", "I", false)
  | _ => ("BiscuitLocksModel", "commandMany", "I", false)
def tyX8 : Nat → FieldType := fun k => match k with
  | 0 => .array .int
  | 1 => .array .int
  | 2 => .array .int
  | 3 => .array .int
  | 4 => .array .int
  | 5 => .int
  | 6 => .int
  | 7 => .int
  | 8 => .int
  | 9 => .int
  | 10 => .boolean
  | 11 => .array .int
  | 12 => .int
  | 13 => .array .int
  | 14 => .array .int
  | 15 => .int
  | 16 => .int
  | _ => .int
abbrev wsX80 : List Cond := u_ws RX8 TX8 18
theorem nmX8 : ∀ a, a < 18 → ∀ b, b < 18 → a ≠ b → (TX8 a).2.1 ≠ (TX8 b).2.1 := by decide +kernel
theorem tyX8_ok : ∀ k, k < 18 → parseFieldDescriptor (TX8 k).2.2.1 = some (tyX8 k) := by decide +kernel
abbrev cX8_init : ByteArray := prog_10_method_1_code
def yX8_init : MethodName := ⟨RX8, "<init>", "()V"⟩
abbrev cX8_thrown : ByteArray := prog_10_method_2_code
def yX8_thrown : MethodName := ⟨RX8, "thrown", "()I"⟩
abbrev cX8_isIn : ByteArray := prog_10_method_3_code
def yX8_isIn : MethodName := ⟨RX8, "isIn", "(III)Z"⟩
abbrev cX8_copies : ByteArray := prog_10_method_4_code
def yX8_copies : MethodName := ⟨RX8, "copies", "([II[II)V"⟩
abbrev cX8_keeps : ByteArray := prog_10_method_5_code
def yX8_keeps : MethodName := ⟨RX8, "keeps", "()V"⟩
abbrev cX8_ends : ByteArray := prog_10_method_6_code
def yX8_ends : MethodName := ⟨RX8, "ends", "(I)I"⟩
abbrev cX8_isThrown : ByteArray := prog_10_method_7_code
def yX8_isThrown : MethodName := ⟨RX8, "isThrown", "(ZI)Z"⟩
abbrev cX8_of : ByteArray := prog_10_method_8_code
def yX8_of : MethodName := ⟨RX8, "of", "(II)I"⟩
abbrev cX8_sets : ByteArray := prog_10_method_9_code
def yX8_sets : MethodName := ⟨RX8, "sets", "(III)V"⟩
abbrev cX8_ofOven : ByteArray := prog_10_method_10_code
def yX8_ofOven : MethodName := ⟨RX8, "ofOven", "(II)I"⟩
abbrev cX8_setsOven : ByteArray := prog_10_method_11_code
def yX8_setsOven : MethodName := ⟨RX8, "setsOven", "(III)V"⟩
abbrev cX8_isDoor : ByteArray := prog_10_method_12_code
def yX8_isDoor : MethodName := ⟨RX8, "isDoor", "(I)Z"⟩
abbrev cX8_isDial : ByteArray := prog_10_method_13_code
def yX8_isDial : MethodName := ⟨RX8, "isDial", "(I)Z"⟩
abbrev cX8_isOven : ByteArray := prog_10_method_14_code
def yX8_isOven : MethodName := ⟨RX8, "isOven", "(I)Z"⟩
abbrev cX8_isSetting : ByteArray := prog_10_method_15_code
def yX8_isSetting : MethodName := ⟨RX8, "isSetting", "(III)Z"⟩
abbrev cX8_bakes : ByteArray := prog_10_method_16_code
def yX8_bakes : MethodName := ⟨RX8, "bakes", "(I)Z"⟩
abbrev cX8_open : ByteArray := prog_10_method_17_code
def yX8_open : MethodName := ⟨RX8, "open", "(I)Z"⟩
abbrev cX8_away : ByteArray := prog_10_method_18_code
def yX8_away : MethodName := ⟨RX8, "away", "(II)I"⟩
abbrev cX8_misfits : ByteArray := prog_10_method_19_code
def yX8_misfits : MethodName := ⟨RX8, "misfits", "(II)I"⟩
abbrev cX8_playOf : ByteArray := prog_10_method_20_code
def yX8_playOf : MethodName := ⟨RX8, "playOf", "(I)I"⟩
abbrev cX8_combines : ByteArray := prog_10_method_21_code
def yX8_combines : MethodName := ⟨RX8, "combines", "(IIII)V"⟩
abbrev cX8_doors : ByteArray := prog_10_method_22_code
def yX8_doors : MethodName := ⟨RX8, "doors", "(III)I"⟩
abbrev cX8_addDoor : ByteArray := prog_10_method_23_code
def yX8_addDoor : MethodName := ⟨RX8, "addDoor", "(III)I"⟩
abbrev cX8_turns : ByteArray := prog_10_method_24_code
def yX8_turns : MethodName := ⟨RX8, "turns", "(III)I"⟩
abbrev cX8_turn : ByteArray := prog_10_method_25_code
def yX8_turn : MethodName := ⟨RX8, "turn", "(III)I"⟩
abbrev cX8_records : ByteArray := prog_10_method_26_code
def yX8_records : MethodName := ⟨RX8, "records", "(II)V"⟩
abbrev cX8_crumbled : ByteArray := prog_10_method_27_code
def yX8_crumbled : MethodName := ⟨RX8, "crumbled", "(II)I"⟩
abbrev cX8_tries : ByteArray := prog_10_method_28_code
def yX8_tries : MethodName := ⟨RX8, "tries", "(I)I"⟩
abbrev cX8_tryLock : ByteArray := prog_10_method_29_code
def yX8_tryLock : MethodName := ⟨RX8, "tryLock", "(I)Z"⟩
abbrev cX8_manyShut : ByteArray := prog_10_method_30_code
def yX8_manyShut : MethodName := ⟨RX8, "manyShut", "()I"⟩
abbrev cX8_shuts : ByteArray := prog_10_method_31_code
def yX8_shuts : MethodName := ⟨RX8, "shuts", "(I)I"⟩
abbrev cX8_shut : ByteArray := prog_10_method_32_code
def yX8_shut : MethodName := ⟨RX8, "shut", "(I)I"⟩
abbrev cX8_combined : ByteArray := prog_10_method_33_code
def yX8_combined : MethodName := ⟨RX8, "combined", "(IIII)I"⟩
abbrev cX8_setCombination : ByteArray := prog_10_method_34_code
def yX8_setCombination : MethodName := ⟨RX8, "setCombination", "(IIII)I"⟩
abbrev cX8_damps : ByteArray := prog_10_method_35_code
def yX8_damps : MethodName := ⟨RX8, "damps", "(I)I"⟩
abbrev cX8_setDamp : ByteArray := prog_10_method_36_code
def yX8_setDamp : MethodName := ⟨RX8, "setDamp", "(I)I"⟩
abbrev cX8_bakings : ByteArray := prog_10_method_37_code
def yX8_bakings : MethodName := ⟨RX8, "bakings", "(II)I"⟩
abbrev cX8_bake : ByteArray := prog_10_method_38_code
def yX8_bake : MethodName := ⟨RX8, "bake", "(II)I"⟩
abbrev cX8_drifts : ByteArray := prog_10_method_39_code
def yX8_drifts : MethodName := ⟨RX8, "drifts", "()V"⟩
abbrev cX8_heats : ByteArray := prog_10_method_40_code
def yX8_heats : MethodName := ⟨RX8, "heats", "(I)V"⟩
abbrev cX8_hourPasses : ByteArray := prog_10_method_41_code
def yX8_hourPasses : MethodName := ⟨RX8, "hourPasses", "()V"⟩
abbrev cX8_waits : ByteArray := prog_10_method_42_code
def yX8_waits : MethodName := ⟨RX8, "waits", "(I)I"⟩
abbrev cX8_passHours : ByteArray := prog_10_method_43_code
def yX8_passHours : MethodName := ⟨RX8, "passHours", "(I)I"⟩
abbrev cX8_doorCount : ByteArray := prog_10_method_44_code
def yX8_doorCount : MethodName := ⟨RX8, "doorCount", "()I"⟩
abbrev cX8_dial : ByteArray := prog_10_method_45_code
def yX8_dial : MethodName := ⟨RX8, "dial", "(II)I"⟩
abbrev cX8_combination : ByteArray := prog_10_method_46_code
def yX8_combination : MethodName := ⟨RX8, "combination", "(II)I"⟩
abbrev cX8_isOpen : ByteArray := prog_10_method_47_code
def yX8_isOpen : MethodName := ⟨RX8, "isOpen", "(I)Z"⟩
abbrev cX8_isBroken : ByteArray := prog_10_method_48_code
def yX8_isBroken : MethodName := ⟨RX8, "isBroken", "(I)Z"⟩
abbrev cX8_crumbs : ByteArray := prog_10_method_49_code
def yX8_crumbs : MethodName := ⟨RX8, "crumbs", "(I)I"⟩
abbrev cX8_play : ByteArray := prog_10_method_50_code
def yX8_play : MethodName := ⟨RX8, "play", "(I)I"⟩
abbrev cX8_fittingDials : ByteArray := prog_10_method_51_code
def yX8_fittingDials : MethodName := ⟨RX8, "fittingDials", "(I)I"⟩
abbrev cX8_steps : ByteArray := prog_10_method_52_code
def yX8_steps : MethodName := ⟨RX8, "steps", "(I)I"⟩
abbrev cX8_stepsToOpen : ByteArray := prog_10_method_53_code
def yX8_stepsToOpen : MethodName := ⟨RX8, "stepsToOpen", "(I)I"⟩
abbrev cX8_stepsToOpenByTurning : ByteArray := prog_10_method_54_code
def yX8_stepsToOpenByTurning : MethodName := ⟨RX8, "stepsToOpenByTurning", "(I)I"⟩
abbrev cX8_openingSettings : ByteArray := prog_10_method_55_code
def yX8_openingSettings : MethodName := ⟨RX8, "openingSettings", "(I)I"⟩
abbrev cX8_triesUntilBroken : ByteArray := prog_10_method_56_code
def yX8_triesUntilBroken : MethodName := ⟨RX8, "triesUntilBroken", "(I)I"⟩
abbrev cX8_dialAfter : ByteArray := prog_10_method_57_code
def yX8_dialAfter : MethodName := ⟨RX8, "dialAfter", "(III)I"⟩
abbrev cX8_hoursUntilFitting : ByteArray := prog_10_method_58_code
def yX8_hoursUntilFitting : MethodName := ⟨RX8, "hoursUntilFitting", "(I)I"⟩
abbrev cX8_bakedDoor : ByteArray := prog_10_method_59_code
def yX8_bakedDoor : MethodName := ⟨RX8, "bakedDoor", "(I)I"⟩
abbrev cX8_bakingHours : ByteArray := prog_10_method_60_code
def yX8_bakingHours : MethodName := ⟨RX8, "bakingHours", "(I)I"⟩
abbrev cX8_isBaking : ByteArray := prog_10_method_61_code
def yX8_isBaking : MethodName := ⟨RX8, "isBaking", "(I)Z"⟩
abbrev cX8_isAhead : ByteArray := prog_10_method_62_code
def yX8_isAhead : MethodName := ⟨RX8, "isAhead", "(II)Z"⟩
abbrev cX8_doorByCrumbs : ByteArray := prog_10_method_63_code
def yX8_doorByCrumbs : MethodName := ⟨RX8, "doorByCrumbs", "(I)I"⟩
abbrev cX8_rememberedTries : ByteArray := prog_10_method_64_code
def yX8_rememberedTries : MethodName := ⟨RX8, "rememberedTries", "()I"⟩
abbrev cX8_ofTry : ByteArray := prog_10_method_65_code
def yX8_ofTry : MethodName := ⟨RX8, "ofTry", "(II)I"⟩
abbrev cX8_triedDoor : ByteArray := prog_10_method_66_code
def yX8_triedDoor : MethodName := ⟨RX8, "triedDoor", "(I)I"⟩
abbrev cX8_didOpen : ByteArray := prog_10_method_67_code
def yX8_didOpen : MethodName := ⟨RX8, "didOpen", "(I)Z"⟩
abbrev cX8_shutLocks : ByteArray := prog_10_method_68_code
def yX8_shutLocks : MethodName := ⟨RX8, "shutLocks", "()I"⟩
abbrev cX8_shutLocksByAccounts : ByteArray := prog_10_method_69_code
def yX8_shutLocksByAccounts : MethodName := ⟨RX8, "shutLocksByAccounts", "()I"⟩
abbrev cX8_damp : ByteArray := prog_10_method_70_code
def yX8_damp : MethodName := ⟨RX8, "damp", "()I"⟩
abbrev cX8_hour : ByteArray := prog_10_method_71_code
def yX8_hour : MethodName := ⟨RX8, "hour", "()I"⟩
abbrev cX8_tryTotal : ByteArray := prog_10_method_72_code
def yX8_tryTotal : MethodName := ⟨RX8, "tryTotal", "()I"⟩
abbrev cX8_openedTotal : ByteArray := prog_10_method_73_code
def yX8_openedTotal : MethodName := ⟨RX8, "openedTotal", "()I"⟩
abbrev cX8_bakedTotal : ByteArray := prog_10_method_74_code
def yX8_bakedTotal : MethodName := ⟨RX8, "bakedTotal", "()I"⟩
abbrev cX8_meanCrumbs : ByteArray := prog_10_method_75_code
def yX8_meanCrumbs : MethodName := ⟨RX8, "meanCrumbs", "()D"⟩
abbrev cX8_openedShare : ByteArray := prog_10_method_76_code
def yX8_openedShare : MethodName := ⟨RX8, "openedShare", "()F"⟩
abbrev cX8_isConsistent : ByteArray := prog_10_method_77_code
def yX8_isConsistent : MethodName := ⟨RX8, "isConsistent", "()Z"⟩
abbrev cX8_puts : ByteArray := prog_10_method_78_code
def yX8_puts : MethodName := ⟨RX8, "puts", "(I)V"⟩
abbrev cX8_number : ByteArray := prog_10_method_79_code
def yX8_number : MethodName := ⟨RX8, "number", "(I)V"⟩
abbrev cX8_renderLock : ByteArray := prog_10_method_80_code
def yX8_renderLock : MethodName := ⟨RX8, "renderLock", "(I)I"⟩
abbrev cX8_renderOvens : ByteArray := prog_10_method_81_code
def yX8_renderOvens : MethodName := ⟨RX8, "renderOvens", "()I"⟩
abbrev cX8_outputAt : ByteArray := prog_10_method_82_code
def yX8_outputAt : MethodName := ⟨RX8, "outputAt", "(I)C"⟩
abbrev cX8_type : ByteArray := prog_10_method_83_code
def yX8_type : MethodName := ⟨RX8, "type", "(C)I"⟩
abbrev cX8_now : ByteArray := prog_10_method_84_code
def yX8_now : MethodName := ⟨RX8, "now", "()I"⟩
abbrev cX8_isSign : ByteArray := prog_10_method_85_code
def yX8_isSign : MethodName := ⟨RX8, "isSign", "(I)Z"⟩
abbrev cX8_isNumber : ByteArray := prog_10_method_86_code
def yX8_isNumber : MethodName := ⟨RX8, "isNumber", "(II)Z"⟩
abbrev cX8_isWord : ByteArray := prog_10_method_87_code
def yX8_isWord : MethodName := ⟨RX8, "isWord", "(Ljava/lang/String;)Z"⟩
abbrev cX8_isThree : ByteArray := prog_10_method_88_code
def yX8_isThree : MethodName := ⟨RX8, "isThree", "(I)Z"⟩
abbrev cX8_isSteps : ByteArray := prog_10_method_89_code
def yX8_isSteps : MethodName := ⟨RX8, "isSteps", "(I)Z"⟩
abbrev cX8_readsT : ByteArray := prog_10_method_90_code
def yX8_readsT : MethodName := ⟨RX8, "readsT", "(I)Z"⟩
abbrev cX8_readsD : ByteArray := prog_10_method_91_code
def yX8_readsD : MethodName := ⟨RX8, "readsD", "(I)Z"⟩
abbrev cX8_readsS : ByteArray := prog_10_method_92_code
def yX8_readsS : MethodName := ⟨RX8, "readsS", "(I)Z"⟩
abbrev cX8_readsHour : ByteArray := prog_10_method_93_code
def yX8_readsHour : MethodName := ⟨RX8, "readsHour", "(I)Z"⟩
abbrev cX8_readsRest : ByteArray := prog_10_method_94_code
def yX8_readsRest : MethodName := ⟨RX8, "readsRest", "(II)Z"⟩
abbrev cX8_isFirst : ByteArray := prog_10_method_95_code
def yX8_isFirst : MethodName := ⟨RX8, "isFirst", "(I)Z"⟩
abbrev cX8_readsCommand : ByteArray := prog_10_method_96_code
def yX8_readsCommand : MethodName := ⟨RX8, "readsCommand", "()Z"⟩
abbrev cX8_isScript : ByteArray := prog_10_method_97_code
def yX8_isScript : MethodName := ⟨RX8, "isScript", "()Z"⟩
abbrev cX8_does : ByteArray := prog_10_method_98_code
def yX8_does : MethodName := ⟨RX8, "does", "(I)I"⟩
abbrev cX8_runScript : ByteArray := prog_10_method_99_code
def yX8_runScript : MethodName := ⟨RX8, "runScript", "()I"⟩
abbrev cX8_errorPosition : ByteArray := prog_10_method_100_code
def yX8_errorPosition : MethodName := ⟨RX8, "errorPosition", "()I"⟩
abbrev cX8_failedCommand : ByteArray := prog_10_method_101_code
def yX8_failedCommand : MethodName := ⟨RX8, "failedCommand", "()I"⟩
abbrev cX8_undo : ByteArray := prog_10_method_102_code
def yX8_undo : MethodName := ⟨RX8, "undo", "()I"⟩
abbrev cX8_save : ByteArray := prog_10_method_103_code
def yX8_save : MethodName := ⟨RX8, "save", "()I"⟩
abbrev cX8_restore : ByteArray := prog_10_method_104_code
def yX8_restore : MethodName := ⟨RX8, "restore", "()I"⟩
def RJx145de : String := "java/io/Serializable"
def TJx145de : u_T := fun k => match k with
  | _ => ("", "", "", false)
def tyJx145de : Nat → FieldType := fun k => match k with
  | _ => .int
abbrev wsJx145de0 : List Cond := u_ws RJx145de TJx145de 0
theorem nmJx145de : ∀ a, a < 0 → ∀ b, b < 0 → a ≠ b → (TJx145de a).2.1 ≠ (TJx145de b).2.1 := by decide +kernel
theorem tyJx145de_ok : ∀ k, k < 0 → parseFieldDescriptor (TJx145de k).2.2.1 = some (tyJx145de k) := by decide +kernel
def RJ5 : String := "java/lang/AbstractStringBuilder"
def TJ5 : u_T := fun k => match k with
  | _ => ("", "", "", false)
def tyJ5 : Nat → FieldType := fun k => match k with
  | _ => .int
abbrev wsJ50 : List Cond := u_ws RJ5 TJ5 0
theorem nmJ5 : ∀ a, a < 0 → ∀ b, b < 0 → a ≠ b → (TJ5 a).2.1 ≠ (TJ5 b).2.1 := by decide +kernel
theorem tyJ5_ok : ∀ k, k < 0 → parseFieldDescriptor (TJ5 k).2.2.1 = some (tyJ5 k) := by decide +kernel
abbrev cJ5_init_d00df : ByteArray := prog_12_method_2_code
def yJ5_init_d00df : MethodName := ⟨RJ5, "<init>", "(I)V"⟩
abbrev cJ5_length_8abf5 : ByteArray := prog_12_method_6_code
def yJ5_length_8abf5 : MethodName := ⟨RJ5, "length", "()I"⟩
abbrev cJ5_ensureCapacityInternal_d00df : ByteArray := prog_12_method_9_code
def yJ5_ensureCapacityInternal_d00df : MethodName := ⟨RJ5, "ensureCapacityInternal", "(I)V"⟩
abbrev cJ5_newCapacity_0f7a4 : ByteArray := prog_12_method_10_code
def yJ5_newCapacity_0f7a4 : MethodName := ⟨RJ5, "newCapacity", "(I)I"⟩
abbrev cJ5_inflate_da8c8 : ByteArray := prog_12_method_11_code
def yJ5_inflate_da8c8 : MethodName := ⟨RJ5, "inflate", "()V"⟩
abbrev cJ5_setLength_d00df : ByteArray := prog_12_method_13_code
def yJ5_setLength_d00df : MethodName := ⟨RJ5, "setLength", "(I)V"⟩
abbrev cJ5_charAt_5068e : ByteArray := prog_12_method_14_code
def yJ5_charAt_5068e : MethodName := ⟨RJ5, "charAt", "(I)C"⟩
abbrev cJ5_append_cf1ce : ByteArray := prog_12_method_22_code
def yJ5_append_cf1ce : MethodName := ⟨RJ5, "append", "(Ljava/lang/String;)Ljava/lang/AbstractStringBuilder;"⟩
abbrev cJ5_appendNull_278bc : ByteArray := prog_12_method_26_code
def yJ5_appendNull_278bc : MethodName := ⟨RJ5, "appendNull", "()Ljava/lang/AbstractStringBuilder;"⟩
abbrev cJ5_append_3fe6f : ByteArray := prog_12_method_31_code
def yJ5_append_3fe6f : MethodName := ⟨RJ5, "append", "(C)Ljava/lang/AbstractStringBuilder;"⟩
abbrev cJ5_append_c97b9 : ByteArray := prog_12_method_32_code
def yJ5_append_c97b9 : MethodName := ⟨RJ5, "append", "(I)Ljava/lang/AbstractStringBuilder;"⟩
abbrev cJ5_getValue_6d5f1 : ByteArray := prog_12_method_64_code
def yJ5_getValue_6d5f1 : MethodName := ⟨RJ5, "getValue", "()[B"⟩
abbrev cJ5_isLatin1_aae02 : ByteArray := prog_12_method_68_code
def yJ5_isLatin1_aae02 : MethodName := ⟨RJ5, "isLatin1", "()Z"⟩
abbrev cJ5_inflateIfNeededFor_a7421 : ByteArray := prog_12_method_71_code
def yJ5_inflateIfNeededFor_a7421 : MethodName := ⟨RJ5, "inflateIfNeededFor", "(Ljava/lang/String;)V"⟩
abbrev cJ5_putStringAt_47b60 : ByteArray := prog_12_method_73_code
def yJ5_putStringAt_47b60 : MethodName := ⟨RJ5, "putStringAt", "(ILjava/lang/String;)V"⟩
def RJx2cfe8 : String := "java/lang/Appendable"
def TJx2cfe8 : u_T := fun k => match k with
  | _ => ("", "", "", false)
def tyJx2cfe8 : Nat → FieldType := fun k => match k with
  | _ => .int
abbrev wsJx2cfe80 : List Cond := u_ws RJx2cfe8 TJx2cfe8 0
theorem nmJx2cfe8 : ∀ a, a < 0 → ∀ b, b < 0 → a ≠ b → (TJx2cfe8 a).2.1 ≠ (TJx2cfe8 b).2.1 := by decide +kernel
theorem tyJx2cfe8_ok : ∀ k, k < 0 → parseFieldDescriptor (TJx2cfe8 k).2.2.1 = some (tyJx2cfe8 k) := by decide +kernel
def RJx00060 : String := "java/lang/ArrayIndexOutOfBoundsException"
def TJx00060 : u_T := fun k => match k with
  | 0 => ("java/lang/Throwable", "cause", "Ljava/lang/Throwable;", false)
  | 1 => ("java/lang/Throwable", "stackTrace", "[Ljava/lang/StackTraceElement;", false)
  | 2 => ("java/lang/Throwable", "suppressedExceptions", "Ljava/util/List;", false)
  | 3 => ("java/lang/Throwable", "detailMessage", "Ljava/lang/String;", false)
  | 4 => ("java/lang/Throwable", "backtrace", "Ljava/lang/Object;", false)
  | _ => ("java/lang/Throwable", "depth", "I", false)
def tyJx00060 : Nat → FieldType := fun k => match k with
  | 0 => .object "java/lang/Throwable"
  | 1 => .array (.object "java/lang/StackTraceElement")
  | 2 => .object "java/util/List"
  | 3 => .object "java/lang/String"
  | 4 => .object "java/lang/Object"
  | _ => .int
abbrev wsJx000600 : List Cond := u_ws RJx00060 TJx00060 6
theorem nmJx00060 : ∀ a, a < 6 → ∀ b, b < 6 → a ≠ b → (TJx00060 a).2.1 ≠ (TJx00060 b).2.1 := by decide +kernel
theorem tyJx00060_ok : ∀ k, k < 6 → parseFieldDescriptor (TJx00060 k).2.2.1 = some (tyJx00060 k) := by decide +kernel
abbrev cJx00060_init_a7421 : ByteArray := prog_15_method_2_code
def yJx00060_init_a7421 : MethodName := ⟨RJx00060, "<init>", "(Ljava/lang/String;)V"⟩
abbrev cJx00060_init_d00df : ByteArray := prog_15_method_3_code
def yJx00060_init_d00df : MethodName := ⟨RJx00060, "<init>", "(I)V"⟩
def RJx9f9b0 : String := "java/lang/CharSequence"
def TJx9f9b0 : u_T := fun k => match k with
  | _ => ("", "", "", false)
def tyJx9f9b0 : Nat → FieldType := fun k => match k with
  | _ => .int
abbrev wsJx9f9b00 : List Cond := u_ws RJx9f9b0 TJx9f9b0 0
theorem nmJx9f9b0 : ∀ a, a < 0 → ∀ b, b < 0 → a ≠ b → (TJx9f9b0 a).2.1 ≠ (TJx9f9b0 b).2.1 := by decide +kernel
theorem tyJx9f9b0_ok : ∀ k, k < 0 → parseFieldDescriptor (TJx9f9b0 k).2.2.1 = some (tyJx9f9b0 k) := by decide +kernel
def RJx8e188 : String := "java/lang/Cloneable"
def TJx8e188 : u_T := fun k => match k with
  | _ => ("", "", "", false)
def tyJx8e188 : Nat → FieldType := fun k => match k with
  | _ => .int
abbrev wsJx8e1880 : List Cond := u_ws RJx8e188 TJx8e188 0
theorem nmJx8e188 : ∀ a, a < 0 → ∀ b, b < 0 → a ≠ b → (TJx8e188 a).2.1 ≠ (TJx8e188 b).2.1 := by decide +kernel
theorem tyJx8e188_ok : ∀ k, k < 0 → parseFieldDescriptor (TJx8e188 k).2.2.1 = some (tyJx8e188 k) := by decide +kernel
def RJxb160c : String := "java/lang/Comparable"
def TJxb160c : u_T := fun k => match k with
  | _ => ("", "", "", false)
def tyJxb160c : Nat → FieldType := fun k => match k with
  | _ => .int
abbrev wsJxb160c0 : List Cond := u_ws RJxb160c TJxb160c 0
theorem nmJxb160c : ∀ a, a < 0 → ∀ b, b < 0 → a ≠ b → (TJxb160c a).2.1 ≠ (TJxb160c b).2.1 := by decide +kernel
theorem tyJxb160c_ok : ∀ k, k < 0 → parseFieldDescriptor (TJxb160c k).2.2.1 = some (tyJxb160c k) := by decide +kernel
def RJx29ce0 : String := "java/lang/Enum"
def TJx29ce0 : u_T := fun k => match k with
  | _ => ("", "", "", false)
def tyJx29ce0 : Nat → FieldType := fun k => match k with
  | _ => .int
abbrev wsJx29ce00 : List Cond := u_ws RJx29ce0 TJx29ce0 0
theorem nmJx29ce0 : ∀ a, a < 0 → ∀ b, b < 0 → a ≠ b → (TJx29ce0 a).2.1 ≠ (TJx29ce0 b).2.1 := by decide +kernel
theorem tyJx29ce0_ok : ∀ k, k < 0 → parseFieldDescriptor (TJx29ce0 k).2.2.1 = some (tyJx29ce0 k) := by decide +kernel
abbrev cJx29ce0_ordinal_8abf5 : ByteArray := prog_19_method_2_code
def yJx29ce0_ordinal_8abf5 : MethodName := ⟨RJx29ce0, "ordinal", "()I"⟩
def RJ6 : String := "java/lang/Integer"
def TJ6 : u_T := fun k => match k with
  | _ => ("", "", "", false)
def tyJ6 : Nat → FieldType := fun k => match k with
  | _ => .int
abbrev wsJ60 : List Cond := u_ws RJ6 TJ6 0
theorem nmJ6 : ∀ a, a < 0 → ∀ b, b < 0 → a ≠ b → (TJ6 a).2.1 ≠ (TJ6 b).2.1 := by decide +kernel
theorem tyJ6_ok : ∀ k, k < 0 → parseFieldDescriptor (TJ6 k).2.2.1 = some (tyJ6 k) := by decide +kernel
abbrev cJ6_getChars_ba4f3 : ByteArray := prog_24_method_12_code
def yJ6_getChars_ba4f3 : MethodName := ⟨RJ6, "getChars", "(II[B)I"⟩
abbrev cJ6_stringSize_0f7a4 : ByteArray := prog_24_method_13_code
def yJ6_stringSize_0f7a4 : MethodName := ⟨RJ6, "stringSize", "(I)I"⟩
def RJ9 : String := "java/lang/Math"
def TJ9 : u_T := fun k => match k with
  | _ => ("", "", "", false)
def tyJ9 : Nat → FieldType := fun k => match k with
  | _ => .int
abbrev wsJ90 : List Cond := u_ws RJ9 TJ9 0
theorem nmJ9 : ∀ a, a < 0 → ∀ b, b < 0 → a ≠ b → (TJ9 a).2.1 ≠ (TJ9 b).2.1 := by decide +kernel
theorem tyJ9_ok : ∀ k, k < 0 → parseFieldDescriptor (TJ9 k).2.2.1 = some (tyJ9 k) := by decide +kernel
abbrev cJ9_max_7cf53 : ByteArray := prog_25_method_65_code
def yJ9_max_7cf53 : MethodName := ⟨RJ9, "max", "(II)I"⟩
abbrev cJ9_min_7cf53 : ByteArray := prog_25_method_69_code
def yJ9_min_7cf53 : MethodName := ⟨RJ9, "min", "(II)I"⟩
def RJxd2413 : String := "java/lang/Number"
def TJxd2413 : u_T := fun k => match k with
  | _ => ("", "", "", false)
def tyJxd2413 : Nat → FieldType := fun k => match k with
  | _ => .int
abbrev wsJxd24130 : List Cond := u_ws RJxd2413 TJxd2413 0
theorem nmJxd2413 : ∀ a, a < 0 → ∀ b, b < 0 → a ≠ b → (TJxd2413 a).2.1 ≠ (TJxd2413 b).2.1 := by decide +kernel
theorem tyJxd2413_ok : ∀ k, k < 0 → parseFieldDescriptor (TJxd2413 k).2.2.1 = some (tyJxd2413 k) := by decide +kernel
def RJ0 : String := "java/lang/String"
def TJ0 : u_T := fun k => match k with
  | 0 => ("java/lang/String", "value", "[B", true)
  | 1 => ("java/lang/String", "coder", "B", true)
  | 2 => ("java/lang/String", "hash", "I", false)
  | _ => ("java/lang/String", "hashIsZero", "Z", false)
def tyJ0 : Nat → FieldType := fun k => match k with
  | 0 => .array .byte
  | 1 => .byte
  | 2 => .int
  | _ => .boolean
abbrev wsJ00 : List Cond := u_ws RJ0 TJ0 4
theorem nmJ0 : ∀ a, a < 4 → ∀ b, b < 4 → a ≠ b → (TJ0 a).2.1 ≠ (TJ0 b).2.1 := by decide +kernel
theorem tyJ0_ok : ∀ k, k < 4 → parseFieldDescriptor (TJ0 k).2.2.1 = some (tyJ0 k) := by decide +kernel
abbrev cJ0_init_81219 : ByteArray := prog_28_method_53_code
def yJ0_init_81219 : MethodName := ⟨RJ0, "<init>", "(Ljava/lang/StringBuilder;)V"⟩
abbrev cJ0_length_8abf5 : ByteArray := prog_28_method_54_code
def yJ0_length_8abf5 : MethodName := ⟨RJ0, "length", "()I"⟩
abbrev cJ0_charAt_5068e : ByteArray := prog_28_method_56_code
def yJ0_charAt_5068e : MethodName := ⟨RJ0, "charAt", "(I)C"⟩
abbrev cJ0_getBytes_840e7 : ByteArray := prog_28_method_147_code
def yJ0_getBytes_840e7 : MethodName := ⟨RJ0, "getBytes", "([BIB)V"⟩
abbrev cJ0_init_db425 : ByteArray := prog_28_method_150_code
def yJ0_init_db425 : MethodName := ⟨RJ0, "<init>", "(Ljava/lang/AbstractStringBuilder;Ljava/lang/Void;)V"⟩
abbrev cJ0_coder_7d493 : ByteArray := prog_28_method_152_code
def yJ0_coder_7d493 : MethodName := ⟨RJ0, "coder", "()B"⟩
abbrev cJ0_isLatin1_aae02 : ByteArray := prog_28_method_154_code
def yJ0_isLatin1_aae02 : MethodName := ⟨RJ0, "isLatin1", "()Z"⟩
abbrev cJ0_checkIndex_df160 : ByteArray := prog_28_method_155_code
def yJ0_checkIndex_df160 : MethodName := ⟨RJ0, "checkIndex", "(II)V"⟩
abbrev cJ0_checkBoundsOffCount_cabcc : ByteArray := prog_28_method_157_code
def yJ0_checkBoundsOffCount_cabcc : MethodName := ⟨RJ0, "checkBoundsOffCount", "(III)I"⟩
abbrev cJ0_checkBoundsBeginEnd_23922 : ByteArray := prog_28_method_158_code
def yJ0_checkBoundsBeginEnd_23922 : MethodName := ⟨RJ0, "checkBoundsBeginEnd", "(III)V"⟩
def RJ4 : String := "java/lang/StringBuilder"
def TJ4 : u_T := fun k => match k with
  | 0 => ("java/lang/AbstractStringBuilder", "value", "[B", false)
  | 1 => ("java/lang/AbstractStringBuilder", "coder", "B", false)
  | 2 => ("java/lang/AbstractStringBuilder", "maybeLatin1", "Z", false)
  | _ => ("java/lang/AbstractStringBuilder", "count", "I", false)
def tyJ4 : Nat → FieldType := fun k => match k with
  | 0 => .array .byte
  | 1 => .byte
  | 2 => .boolean
  | _ => .int
abbrev wsJ40 : List Cond := u_ws RJ4 TJ4 4
theorem nmJ4 : ∀ a, a < 4 → ∀ b, b < 4 → a ≠ b → (TJ4 a).2.1 ≠ (TJ4 b).2.1 := by decide +kernel
theorem tyJ4_ok : ∀ k, k < 4 → parseFieldDescriptor (TJ4 k).2.2.1 = some (tyJ4 k) := by decide +kernel
abbrev cJ4_init_da8c8 : ByteArray := prog_29_method_1_code
def yJ4_init_da8c8 : MethodName := ⟨RJ4, "<init>", "()V"⟩
abbrev cJ4_append_15ec4 : ByteArray := prog_29_method_7_code
def yJ4_append_15ec4 : MethodName := ⟨RJ4, "append", "(Ljava/lang/String;)Ljava/lang/StringBuilder;"⟩
abbrev cJ4_append_cf468 : ByteArray := prog_29_method_14_code
def yJ4_append_cf468 : MethodName := ⟨RJ4, "append", "(C)Ljava/lang/StringBuilder;"⟩
abbrev cJ4_append_bf812 : ByteArray := prog_29_method_15_code
def yJ4_append_bf812 : MethodName := ⟨RJ4, "append", "(I)Ljava/lang/StringBuilder;"⟩
abbrev cJ4_toString_0e30d : ByteArray := prog_29_method_42_code
def yJ4_toString_0e30d : MethodName := ⟨RJ4, "toString", "()Ljava/lang/String;"⟩
abbrev cJ4_charAt_5068e : ByteArray := prog_29_method_88_code
def yJ4_charAt_5068e : MethodName := ⟨RJ4, "charAt", "(I)C"⟩
abbrev cJ4_setLength_d00df : ByteArray := prog_29_method_89_code
def yJ4_setLength_d00df : MethodName := ⟨RJ4, "setLength", "(I)V"⟩
abbrev cJ4_length_8abf5 : ByteArray := prog_29_method_93_code
def yJ4_length_8abf5 : MethodName := ⟨RJ4, "length", "()I"⟩
def RJx7c733 : String := "java/lang/StringIndexOutOfBoundsException"
def TJx7c733 : u_T := fun k => match k with
  | 0 => ("java/lang/Throwable", "backtrace", "Ljava/lang/Object;", false)
  | 1 => ("java/lang/Throwable", "detailMessage", "Ljava/lang/String;", false)
  | 2 => ("java/lang/Throwable", "cause", "Ljava/lang/Throwable;", false)
  | 3 => ("java/lang/Throwable", "stackTrace", "[Ljava/lang/StackTraceElement;", false)
  | 4 => ("java/lang/Throwable", "depth", "I", false)
  | _ => ("java/lang/Throwable", "suppressedExceptions", "Ljava/util/List;", false)
def tyJx7c733 : Nat → FieldType := fun k => match k with
  | 0 => .object "java/lang/Object"
  | 1 => .object "java/lang/String"
  | 2 => .object "java/lang/Throwable"
  | 3 => .array (.object "java/lang/StackTraceElement")
  | 4 => .int
  | _ => .object "java/util/List"
abbrev wsJx7c7330 : List Cond := u_ws RJx7c733 TJx7c733 6
theorem nmJx7c733 : ∀ a, a < 6 → ∀ b, b < 6 → a ≠ b → (TJx7c733 a).2.1 ≠ (TJx7c733 b).2.1 := by decide +kernel
theorem tyJx7c733_ok : ∀ k, k < 6 → parseFieldDescriptor (TJx7c733 k).2.2.1 = some (tyJx7c733 k) := by decide +kernel
abbrev cJx7c733_init_d00df : ByteArray := prog_30_method_3_code
def yJx7c733_init_d00df : MethodName := ⟨RJx7c733, "<init>", "(I)V"⟩
def RJ1 : String := "java/lang/StringLatin1"
def TJ1 : u_T := fun k => match k with
  | _ => ("", "", "", false)
def tyJ1 : Nat → FieldType := fun k => match k with
  | _ => .int
abbrev wsJ10 : List Cond := u_ws RJ1 TJ1 0
theorem nmJ1 : ∀ a, a < 0 → ∀ b, b < 0 → a ≠ b → (TJ1 a).2.1 ≠ (TJ1 b).2.1 := by decide +kernel
theorem tyJ1_ok : ∀ k, k < 0 → parseFieldDescriptor (TJ1 k).2.2.1 = some (tyJ1 k) := by decide +kernel
abbrev cJ1_charAt_3b067 : ByteArray := prog_31_method_2_code
def yJ1_charAt_3b067 : MethodName := ⟨RJ1, "charAt", "([BI)C"⟩
abbrev cJ1_canEncode_fc78d : ByteArray := prog_31_method_3_code
def yJ1_canEncode_fc78d : MethodName := ⟨RJ1, "canEncode", "(C)Z"⟩
abbrev cJ1_fillNull_b72d1 : ByteArray := prog_31_method_48_code
def yJ1_fillNull_b72d1 : MethodName := ⟨RJ1, "fillNull", "([BII)V"⟩
abbrev cJ1_inflate_0e8fd : ByteArray := prog_31_method_50_code
def yJ1_inflate_0e8fd : MethodName := ⟨RJ1, "inflate", "([BI[BII)V"⟩
def RJ2 : String := "java/lang/StringUTF16"
def TJ2 : u_T := fun k => match k with
  | _ => ("", "", "", false)
def tyJ2 : Nat → FieldType := fun k => match k with
  | _ => .int
abbrev wsJ20 : List Cond := u_ws RJ2 TJ2 0
theorem nmJ2 : ∀ a, a < 0 → ∀ b, b < 0 → a ≠ b → (TJ2 a).2.1 ≠ (TJ2 b).2.1 := by decide +kernel
theorem tyJ2_ok : ∀ k, k < 0 → parseFieldDescriptor (TJ2 k).2.2.1 = some (tyJ2 k) := by decide +kernel
abbrev cJ2_newBytesFor_77867 : ByteArray := prog_32_method_2_code
def yJ2_newBytesFor_77867 : MethodName := ⟨RJ2, "newBytesFor", "(I)[B"⟩
abbrev cJ2_newBytesLength_0f7a4 : ByteArray := prog_32_method_3_code
def yJ2_newBytesLength_0f7a4 : MethodName := ⟨RJ2, "newBytesLength", "(I)I"⟩
abbrev cJ2_putChar_b72d1 : ByteArray := prog_32_method_4_code
def yJ2_putChar_b72d1 : MethodName := ⟨RJ2, "putChar", "([BII)V"⟩
abbrev cJ2_getChar_3b067 : ByteArray := prog_32_method_5_code
def yJ2_getChar_3b067 : MethodName := ⟨RJ2, "getChar", "([BI)C"⟩
abbrev cJ2_length_9d52b : ByteArray := prog_32_method_6_code
def yJ2_length_9d52b : MethodName := ⟨RJ2, "length", "([B)I"⟩
abbrev cJ2_coderFromArrayLen_85cad : ByteArray := prog_32_method_15_code
def yJ2_coderFromArrayLen_85cad : MethodName := ⟨RJ2, "coderFromArrayLen", "([BI)B"⟩
abbrev cJ2_compress_39247 : ByteArray := prog_32_method_17_code
def yJ2_compress_39247 : MethodName := ⟨RJ2, "compress", "([BII)[B"⟩
abbrev cJ2_compress_5af95 : ByteArray := prog_32_method_22_code
def yJ2_compress_5af95 : MethodName := ⟨RJ2, "compress", "([BI[BII)I"⟩
abbrev cJ2_fillNull_b72d1 : ByteArray := prog_32_method_70_code
def yJ2_fillNull_b72d1 : MethodName := ⟨RJ2, "fillNull", "([BII)V"⟩
abbrev cJ2_putCharSB_b72d1 : ByteArray := prog_32_method_71_code
def yJ2_putCharSB_b72d1 : MethodName := ⟨RJ2, "putCharSB", "([BII)V"⟩
abbrev cJ2_getChars_46870 : ByteArray := prog_32_method_77_code
def yJ2_getChars_46870 : MethodName := ⟨RJ2, "getChars", "(III[B)I"⟩
abbrev cJ2_putCharsAt_cd4e5 : ByteArray := prog_32_method_81_code
def yJ2_putCharsAt_cd4e5 : MethodName := ⟨RJ2, "putCharsAt", "([BICCCC)I"⟩
abbrev cJ2_charAt_3b067 : ByteArray := prog_32_method_83_code
def yJ2_charAt_3b067 : MethodName := ⟨RJ2, "charAt", "([BI)C"⟩
abbrev cJ2_inflate_0e8fd : ByteArray := prog_32_method_86_code
def yJ2_inflate_0e8fd : MethodName := ⟨RJ2, "inflate", "([BI[BII)V"⟩
abbrev cJ2_getChars_ba4f3 : ByteArray := prog_32_method_89_code
def yJ2_getChars_ba4f3 : MethodName := ⟨RJ2, "getChars", "(II[B)I"⟩
abbrev cJ2_checkIndex_2214a : ByteArray := prog_32_method_91_code
def yJ2_checkIndex_2214a : MethodName := ⟨RJ2, "checkIndex", "(I[B)V"⟩
abbrev cJ2_checkBoundsBeginEnd_d044e : ByteArray := prog_32_method_93_code
def yJ2_checkBoundsBeginEnd_d044e : MethodName := ⟨RJ2, "checkBoundsBeginEnd", "(II[B)V"⟩
abbrev cJ2_checkBoundsOffCount_d044e : ByteArray := prog_32_method_94_code
def yJ2_checkBoundsOffCount_d044e : MethodName := ⟨RJ2, "checkBoundsOffCount", "(II[B)V"⟩
def RJ10 : String := "java/lang/System"
def TJ10 : u_T := fun k => match k with
  | _ => ("", "", "", false)
def tyJ10 : Nat → FieldType := fun k => match k with
  | _ => .int
abbrev wsJ100 : List Cond := u_ws RJ10 TJ10 0
theorem nmJ10 : ∀ a, a < 0 → ∀ b, b < 0 → a ≠ b → (TJ10 a).2.1 ≠ (TJ10 b).2.1 := by decide +kernel
theorem tyJ10_ok : ∀ k, k < 0 → parseFieldDescriptor (TJ10 k).2.2.1 = some (tyJ10 k) := by decide +kernel
def RJxfd54e : String := "java/lang/constant/Constable"
def TJxfd54e : u_T := fun k => match k with
  | _ => ("", "", "", false)
def tyJxfd54e : Nat → FieldType := fun k => match k with
  | _ => .int
abbrev wsJxfd54e0 : List Cond := u_ws RJxfd54e TJxfd54e 0
theorem nmJxfd54e : ∀ a, a < 0 → ∀ b, b < 0 → a ≠ b → (TJxfd54e a).2.1 ≠ (TJxfd54e b).2.1 := by decide +kernel
theorem tyJxfd54e_ok : ∀ k, k < 0 → parseFieldDescriptor (TJxfd54e k).2.2.1 = some (tyJxfd54e k) := by decide +kernel
def RJx3cf43 : String := "java/lang/constant/ConstantDesc"
def TJx3cf43 : u_T := fun k => match k with
  | _ => ("", "", "", false)
def tyJx3cf43 : Nat → FieldType := fun k => match k with
  | _ => .int
abbrev wsJx3cf430 : List Cond := u_ws RJx3cf43 TJx3cf43 0
theorem nmJx3cf43 : ∀ a, a < 0 → ∀ b, b < 0 → a ≠ b → (TJx3cf43 a).2.1 ≠ (TJx3cf43 b).2.1 := by decide +kernel
theorem tyJx3cf43_ok : ∀ k, k < 0 → parseFieldDescriptor (TJx3cf43 k).2.2.1 = some (tyJx3cf43 k) := by decide +kernel
def RJ7 : String := "java/util/Arrays"
def TJ7 : u_T := fun k => match k with
  | _ => ("", "", "", false)
def tyJ7 : Nat → FieldType := fun k => match k with
  | _ => .int
abbrev wsJ70 : List Cond := u_ws RJ7 TJ7 0
theorem nmJ7 : ∀ a, a < 0 → ∀ b, b < 0 → a ≠ b → (TJ7 a).2.1 ≠ (TJ7 b).2.1 := by decide +kernel
theorem tyJ7_ok : ∀ k, k < 0 → parseFieldDescriptor (TJ7 k).2.2.1 = some (tyJ7 k) := by decide +kernel
abbrev cJ7_rangeCheck_23922 : ByteArray := prog_38_method_30_code
def yJ7_rangeCheck_23922 : MethodName := ⟨RJ7, "rangeCheck", "(III)V"⟩
abbrev cJ7_fill_eb02e : ByteArray := prog_38_method_110_code
def yJ7_fill_eb02e : MethodName := ⟨RJ7, "fill", "([BIIB)V"⟩
abbrev cJ7_copyOf_9075b : ByteArray := prog_38_method_121_code
def yJ7_copyOf_9075b : MethodName := ⟨RJ7, "copyOf", "([BI)[B"⟩
abbrev cJ7_checkLength_df160 : ByteArray := prog_38_method_131_code
def yJ7_checkLength_df160 : MethodName := ⟨RJ7, "checkLength", "(II)V"⟩
abbrev cJ7_copyOfRange_39247 : ByteArray := prog_38_method_132_code
def yJ7_copyOfRange_39247 : MethodName := ⟨RJ7, "copyOfRange", "([BII)[B"⟩
abbrev cJ7_copyOfRangeByte_39247 : ByteArray := prog_38_method_133_code
def yJ7_copyOfRangeByte_39247 : MethodName := ⟨RJ7, "copyOfRangeByte", "([BII)[B"⟩
def RJ8 : String := "jdk/internal/util/ArraysSupport"
def TJ8 : u_T := fun k => match k with
  | _ => ("", "", "", false)
def tyJ8 : Nat → FieldType := fun k => match k with
  | _ => .int
abbrev wsJ80 : List Cond := u_ws RJ8 TJ8 0
theorem nmJ8 : ∀ a, a < 0 → ∀ b, b < 0 → a ≠ b → (TJ8 a).2.1 ≠ (TJ8 b).2.1 := by decide +kernel
theorem tyJ8_ok : ∀ k, k < 0 → parseFieldDescriptor (TJ8 k).2.2.1 = some (tyJ8 k) := by decide +kernel
abbrev cJ8_newLength_cabcc : ByteArray := prog_40_method_27_code
def yJ8_newLength_cabcc : MethodName := ⟨RJ8, "newLength", "(III)I"⟩
abbrev cJ8_hugeLength_7cf53 : ByteArray := prog_40_method_28_code
def yJ8_hugeLength_7cf53 : MethodName := ⟨RJ8, "hugeLength", "(II)I"⟩
def RJ3 : String := "jdk/internal/util/Preconditions"
def TJ3 : u_T := fun k => match k with
  | _ => ("", "", "", false)
def tyJ3 : Nat → FieldType := fun k => match k with
  | _ => .int
abbrev wsJ30 : List Cond := u_ws RJ3 TJ3 0
theorem nmJ3 : ∀ a, a < 0 → ∀ b, b < 0 → a ≠ b → (TJ3 a).2.1 ≠ (TJ3 b).2.1 := by decide +kernel
theorem tyJ3_ok : ∀ k, k < 0 → parseFieldDescriptor (TJ3 k).2.2.1 = some (tyJ3 k) := by decide +kernel
abbrev cJ3_checkIndex_8e157 : ByteArray := prog_41_method_11_code
def yJ3_checkIndex_8e157 : MethodName := ⟨RJ3, "checkIndex", "(IILjava/util/function/BiFunction;)I"⟩
abbrev cJ3_checkFromToIndex_8c36e : ByteArray := prog_41_method_12_code
def yJ3_checkFromToIndex_8c36e : MethodName := ⟨RJ3, "checkFromToIndex", "(IIILjava/util/function/BiFunction;)I"⟩
abbrev cJ3_checkFromIndexSize_8c36e : ByteArray := prog_41_method_13_code
def yJ3_checkFromIndexSize_8c36e : MethodName := ⟨RJ3, "checkFromIndexSize", "(IIILjava/util/function/BiFunction;)I"⟩
def RL : String := "BiscuitLocksLaw"
abbrev cL_addDoor : ByteArray := method_3_code
def yL_addDoor : MethodName := ⟨RL, "addDoor", "(LBiscuitLocks;III[J)I"⟩
abbrev cL_turn : ByteArray := method_4_code
def yL_turn : MethodName := ⟨RL, "turn", "(LBiscuitLocks;III[J)I"⟩
abbrev cL_tryLock : ByteArray := method_5_code
def yL_tryLock : MethodName := ⟨RL, "tryLock", "(LBiscuitLocks;I[J)I"⟩
abbrev cL_shut : ByteArray := method_6_code
def yL_shut : MethodName := ⟨RL, "shut", "(LBiscuitLocks;I[J)I"⟩
abbrev cL_setCombination : ByteArray := method_7_code
def yL_setCombination : MethodName := ⟨RL, "setCombination", "(LBiscuitLocks;IIII[J)I"⟩
abbrev cL_setDamp : ByteArray := method_8_code
def yL_setDamp : MethodName := ⟨RL, "setDamp", "(LBiscuitLocks;I[J)I"⟩
abbrev cL_bake : ByteArray := method_9_code
def yL_bake : MethodName := ⟨RL, "bake", "(LBiscuitLocks;II[J)I"⟩
abbrev cL_passHours : ByteArray := method_10_code
def yL_passHours : MethodName := ⟨RL, "passHours", "(LBiscuitLocks;I[J)I"⟩
abbrev cL_dial : ByteArray := method_11_code
def yL_dial : MethodName := ⟨RL, "dial", "(LBiscuitLocks;II[J)I"⟩
abbrev cL_combination : ByteArray := method_12_code
def yL_combination : MethodName := ⟨RL, "combination", "(LBiscuitLocks;II[J)I"⟩
abbrev cL_isOpen : ByteArray := method_13_code
def yL_isOpen : MethodName := ⟨RL, "isOpen", "(LBiscuitLocks;I[J)I"⟩
abbrev cL_isBroken : ByteArray := method_14_code
def yL_isBroken : MethodName := ⟨RL, "isBroken", "(LBiscuitLocks;I[J)I"⟩
abbrev cL_crumbs : ByteArray := method_15_code
def yL_crumbs : MethodName := ⟨RL, "crumbs", "(LBiscuitLocks;I[J)I"⟩
abbrev cL_play : ByteArray := method_16_code
def yL_play : MethodName := ⟨RL, "play", "(LBiscuitLocks;I[J)I"⟩
abbrev cL_fittingDials : ByteArray := method_17_code
def yL_fittingDials : MethodName := ⟨RL, "fittingDials", "(LBiscuitLocks;I[J)I"⟩
abbrev cL_stepsToOpen : ByteArray := method_18_code
def yL_stepsToOpen : MethodName := ⟨RL, "stepsToOpen", "(LBiscuitLocks;I[J)I"⟩
abbrev cL_stepsToOpenByTurning : ByteArray := method_19_code
def yL_stepsToOpenByTurning : MethodName := ⟨RL, "stepsToOpenByTurning", "(LBiscuitLocks;I[J)I"⟩
abbrev cL_openingSettings : ByteArray := method_20_code
def yL_openingSettings : MethodName := ⟨RL, "openingSettings", "(LBiscuitLocks;I[J)I"⟩
abbrev cL_triesUntilBroken : ByteArray := method_21_code
def yL_triesUntilBroken : MethodName := ⟨RL, "triesUntilBroken", "(LBiscuitLocks;I[J)I"⟩
abbrev cL_dialAfter : ByteArray := method_22_code
def yL_dialAfter : MethodName := ⟨RL, "dialAfter", "(LBiscuitLocks;III[J)I"⟩
abbrev cL_hoursUntilFitting : ByteArray := method_23_code
def yL_hoursUntilFitting : MethodName := ⟨RL, "hoursUntilFitting", "(LBiscuitLocks;I[J)I"⟩
abbrev cL_bakedDoor : ByteArray := method_24_code
def yL_bakedDoor : MethodName := ⟨RL, "bakedDoor", "(LBiscuitLocks;I[J)I"⟩
abbrev cL_bakingHours : ByteArray := method_25_code
def yL_bakingHours : MethodName := ⟨RL, "bakingHours", "(LBiscuitLocks;I[J)I"⟩
abbrev cL_isBaking : ByteArray := method_26_code
def yL_isBaking : MethodName := ⟨RL, "isBaking", "(LBiscuitLocks;I[J)I"⟩
abbrev cL_doorByCrumbs : ByteArray := method_27_code
def yL_doorByCrumbs : MethodName := ⟨RL, "doorByCrumbs", "(LBiscuitLocks;I[J)I"⟩
abbrev cL_triedDoor : ByteArray := method_28_code
def yL_triedDoor : MethodName := ⟨RL, "triedDoor", "(LBiscuitLocks;I[J)I"⟩
abbrev cL_didOpen : ByteArray := method_29_code
def yL_didOpen : MethodName := ⟨RL, "didOpen", "(LBiscuitLocks;I[J)I"⟩
abbrev cL_meanCrumbs : ByteArray := method_30_code
def yL_meanCrumbs : MethodName := ⟨RL, "meanCrumbs", "(LBiscuitLocks;[D)I"⟩
abbrev cL_openedShare : ByteArray := method_31_code
def yL_openedShare : MethodName := ⟨RL, "openedShare", "(LBiscuitLocks;[D)I"⟩
abbrev cL_renderLock : ByteArray := method_32_code
def yL_renderLock : MethodName := ⟨RL, "renderLock", "(LBiscuitLocks;I[J)I"⟩
abbrev cL_outputAt : ByteArray := method_33_code
def yL_outputAt : MethodName := ⟨RL, "outputAt", "(LBiscuitLocks;I[J)I"⟩
abbrev cL_type : ByteArray := method_34_code
def yL_type : MethodName := ⟨RL, "type", "(LBiscuitLocks;C[J)I"⟩
abbrev cL_runScript : ByteArray := method_35_code
def yL_runScript : MethodName := ⟨RL, "runScript", "(LBiscuitLocks;[J)I"⟩
abbrev cL_errorPosition : ByteArray := method_36_code
def yL_errorPosition : MethodName := ⟨RL, "errorPosition", "(LBiscuitLocks;[J)I"⟩
abbrev cL_failedCommand : ByteArray := method_37_code
def yL_failedCommand : MethodName := ⟨RL, "failedCommand", "(LBiscuitLocks;[J)I"⟩
abbrev cL_undo : ByteArray := method_38_code
def yL_undo : MethodName := ⟨RL, "undo", "(LBiscuitLocks;[J)I"⟩
abbrev cL_restore : ByteArray := method_39_code
def yL_restore : MethodName := ⟨RL, "restore", "(LBiscuitLocks;[J)I"⟩
abbrev cL_law : ByteArray := code
def yL_law : MethodName := ⟨RL, "law", "([I)Z"⟩
theorem dX2_init_0 : decode cX2_init 0 = .ok (.aload_n 0, 1) := by decide +kernel
theorem dX2_init_1 : decode cX2_init 1 = .ok (.invokespecial 3, 3) := by decide +kernel
theorem dX2_init_4 : decode cX2_init 4 = .ok (.aload_n 0, 1) := by decide +kernel
theorem dX2_init_5 : decode cX2_init 5 = .ok (.bipush 8, 2) := by decide +kernel
theorem dX2_init_7 : decode cX2_init 7 = .ok (.anewarray 9, 3) := by decide +kernel
theorem dX2_init_10 : decode cX2_init 10 = .ok (.putfield 11, 3) := by decide +kernel
theorem dX2_init_13 : decode cX2_init 13 = .ok (.aload_n 0, 1) := by decide +kernel
theorem dX2_init_14 : decode cX2_init 14 = .ok (.iconst 0, 1) := by decide +kernel
theorem dX2_init_15 : decode cX2_init 15 = .ok (.putfield 17, 3) := by decide +kernel
theorem dX2_init_18 : decode cX2_init 18 = .ok (.aload_n 0, 1) := by decide +kernel
theorem dX2_init_19 : decode cX2_init 19 = .ok (.iconst 0, 1) := by decide +kernel
theorem dX2_init_20 : decode cX2_init 20 = .ok (.putfield 21, 3) := by decide +kernel
theorem dX2_init_23 : decode cX2_init 23 = .ok (.iconst 0, 1) := by decide +kernel
theorem dX2_init_24 : decode cX2_init 24 = .ok (.istore_n 1, 1) := by decide +kernel
theorem dX2_init_25 : decode cX2_init 25 = .ok (.iload_n 1, 1) := by decide +kernel
theorem dX2_init_26 : decode cX2_init 26 = .ok (.bipush 8, 2) := by decide +kernel
theorem dX2_init_28 : decode cX2_init 28 = .ok (.if_icmp .ge 22, 3) := by decide +kernel
theorem dX2_init_31 : decode cX2_init 31 = .ok (.aload_n 0, 1) := by decide +kernel
theorem dX2_init_32 : decode cX2_init 32 = .ok (.getfield 11, 3) := by decide +kernel
theorem dX2_init_35 : decode cX2_init 35 = .ok (.iload_n 1, 1) := by decide +kernel
theorem dX2_init_36 : decode cX2_init 36 = .ok (.new 9, 3) := by decide +kernel
theorem dX2_init_39 : decode cX2_init 39 = .ok (.dup, 1) := by decide +kernel
theorem dX2_init_40 : decode cX2_init 40 = .ok (.invokespecial 24, 3) := by decide +kernel
theorem dX2_init_43 : decode cX2_init 43 = .ok (.aastore, 1) := by decide +kernel
theorem dX2_init_44 : decode cX2_init 44 = .ok (.iinc 1 1, 3) := by decide +kernel
theorem dX2_init_47 : decode cX2_init 47 = .ok (.goto (-22), 3) := by decide +kernel
theorem dX2_init_50 : decode cX2_init 50 = .ok (.return_, 1) := by decide +kernel
theorem dX2_push_0 : decode cX2_push 0 = .ok (.aload_n 0, 1) := by decide +kernel
theorem dX2_push_1 : decode cX2_push 1 = .ok (.getfield 21, 3) := by decide +kernel
theorem dX2_push_4 : decode cX2_push 4 = .ok (.bipush 8, 2) := by decide +kernel
theorem dX2_push_6 : decode cX2_push 6 = .ok (.if_icmp .ne 26, 3) := by decide +kernel
theorem dX2_push_9 : decode cX2_push 9 = .ok (.aload_n 0, 1) := by decide +kernel
theorem dX2_push_10 : decode cX2_push 10 = .ok (.aload_n 0, 1) := by decide +kernel
theorem dX2_push_11 : decode cX2_push 11 = .ok (.getfield 17, 3) := by decide +kernel
theorem dX2_push_14 : decode cX2_push 14 = .ok (.iconst 1, 1) := by decide +kernel
theorem dX2_push_15 : decode cX2_push 15 = .ok (.iadd, 1) := by decide +kernel
theorem dX2_push_16 : decode cX2_push 16 = .ok (.bipush 8, 2) := by decide +kernel
theorem dX2_push_18 : decode cX2_push 18 = .ok (.irem, 1) := by decide +kernel
theorem dX2_push_19 : decode cX2_push 19 = .ok (.putfield 17, 3) := by decide +kernel
theorem dX2_push_22 : decode cX2_push 22 = .ok (.aload_n 0, 1) := by decide +kernel
theorem dX2_push_23 : decode cX2_push 23 = .ok (.dup, 1) := by decide +kernel
theorem dX2_push_24 : decode cX2_push 24 = .ok (.getfield 21, 3) := by decide +kernel
theorem dX2_push_27 : decode cX2_push 27 = .ok (.iconst 1, 1) := by decide +kernel
theorem dX2_push_28 : decode cX2_push 28 = .ok (.isub, 1) := by decide +kernel
theorem dX2_push_29 : decode cX2_push 29 = .ok (.putfield 21, 3) := by decide +kernel
theorem dX2_push_32 : decode cX2_push 32 = .ok (.aload_n 0, 1) := by decide +kernel
theorem dX2_push_33 : decode cX2_push 33 = .ok (.getfield 11, 3) := by decide +kernel
theorem dX2_push_36 : decode cX2_push 36 = .ok (.aload_n 0, 1) := by decide +kernel
theorem dX2_push_37 : decode cX2_push 37 = .ok (.getfield 17, 3) := by decide +kernel
theorem dX2_push_40 : decode cX2_push 40 = .ok (.aload_n 0, 1) := by decide +kernel
theorem dX2_push_41 : decode cX2_push 41 = .ok (.getfield 21, 3) := by decide +kernel
theorem dX2_push_44 : decode cX2_push 44 = .ok (.iadd, 1) := by decide +kernel
theorem dX2_push_45 : decode cX2_push 45 = .ok (.bipush 8, 2) := by decide +kernel
theorem dX2_push_47 : decode cX2_push 47 = .ok (.irem, 1) := by decide +kernel
theorem dX2_push_48 : decode cX2_push 48 = .ok (.aaload, 1) := by decide +kernel
theorem dX2_push_49 : decode cX2_push 49 = .ok (.aload_n 1, 1) := by decide +kernel
theorem dX2_push_50 : decode cX2_push 50 = .ok (.invokevirtual 25, 3) := by decide +kernel
theorem dX2_push_53 : decode cX2_push 53 = .ok (.aload_n 0, 1) := by decide +kernel
theorem dX2_push_54 : decode cX2_push 54 = .ok (.dup, 1) := by decide +kernel
theorem dX2_push_55 : decode cX2_push 55 = .ok (.getfield 21, 3) := by decide +kernel
theorem dX2_push_58 : decode cX2_push 58 = .ok (.iconst 1, 1) := by decide +kernel
theorem dX2_push_59 : decode cX2_push 59 = .ok (.iadd, 1) := by decide +kernel
theorem dX2_push_60 : decode cX2_push 60 = .ok (.putfield 21, 3) := by decide +kernel
theorem dX2_push_63 : decode cX2_push 63 = .ok (.return_, 1) := by decide +kernel
theorem dX2_popInto_0 : decode cX2_popInto 0 = .ok (.aload_n 0, 1) := by decide +kernel
theorem dX2_popInto_1 : decode cX2_popInto 1 = .ok (.getfield 21, 3) := by decide +kernel
theorem dX2_popInto_4 : decode cX2_popInto 4 = .ok (.ifCond .le 34, 3) := by decide +kernel
theorem dX2_popInto_7 : decode cX2_popInto 7 = .ok (.aload_n 0, 1) := by decide +kernel
theorem dX2_popInto_8 : decode cX2_popInto 8 = .ok (.dup, 1) := by decide +kernel
theorem dX2_popInto_9 : decode cX2_popInto 9 = .ok (.getfield 21, 3) := by decide +kernel
theorem dX2_popInto_12 : decode cX2_popInto 12 = .ok (.iconst 1, 1) := by decide +kernel
theorem dX2_popInto_13 : decode cX2_popInto 13 = .ok (.isub, 1) := by decide +kernel
theorem dX2_popInto_14 : decode cX2_popInto 14 = .ok (.putfield 21, 3) := by decide +kernel
theorem dX2_popInto_17 : decode cX2_popInto 17 = .ok (.aload_n 1, 1) := by decide +kernel
theorem dX2_popInto_18 : decode cX2_popInto 18 = .ok (.aload_n 0, 1) := by decide +kernel
theorem dX2_popInto_19 : decode cX2_popInto 19 = .ok (.getfield 11, 3) := by decide +kernel
theorem dX2_popInto_22 : decode cX2_popInto 22 = .ok (.aload_n 0, 1) := by decide +kernel
theorem dX2_popInto_23 : decode cX2_popInto 23 = .ok (.getfield 17, 3) := by decide +kernel
theorem dX2_popInto_26 : decode cX2_popInto 26 = .ok (.aload_n 0, 1) := by decide +kernel
theorem dX2_popInto_27 : decode cX2_popInto 27 = .ok (.getfield 21, 3) := by decide +kernel
theorem dX2_popInto_30 : decode cX2_popInto 30 = .ok (.iadd, 1) := by decide +kernel
theorem dX2_popInto_31 : decode cX2_popInto 31 = .ok (.bipush 8, 2) := by decide +kernel
theorem dX2_popInto_33 : decode cX2_popInto 33 = .ok (.irem, 1) := by decide +kernel
theorem dX2_popInto_34 : decode cX2_popInto 34 = .ok (.aaload, 1) := by decide +kernel
theorem dX2_popInto_35 : decode cX2_popInto 35 = .ok (.invokevirtual 25, 3) := by decide +kernel
theorem dX2_popInto_38 : decode cX2_popInto 38 = .ok (.return_, 1) := by decide +kernel
theorem dX3_init_0 : decode cX3_init 0 = .ok (.aload_n 0, 1) := by decide +kernel
theorem dX3_init_1 : decode cX3_init 1 = .ok (.invokespecial 3, 3) := by decide +kernel
theorem dX3_init_4 : decode cX3_init 4 = .ok (.aload_n 0, 1) := by decide +kernel
theorem dX3_init_5 : decode cX3_init 5 = .ok (.bipush 6, 2) := by decide +kernel
theorem dX3_init_7 : decode cX3_init 7 = .ok (.anewarray 9, 3) := by decide +kernel
theorem dX3_init_10 : decode cX3_init 10 = .ok (.putfield 11, 3) := by decide +kernel
theorem dX3_init_13 : decode cX3_init 13 = .ok (.aload_n 0, 1) := by decide +kernel
theorem dX3_init_14 : decode cX3_init 14 = .ok (.iconst 2, 1) := by decide +kernel
theorem dX3_init_15 : decode cX3_init 15 = .ok (.newarray .int, 2) := by decide +kernel
theorem dX3_init_17 : decode cX3_init 17 = .ok (.putfield 17, 3) := by decide +kernel
theorem dX3_init_20 : decode cX3_init 20 = .ok (.aload_n 0, 1) := by decide +kernel
theorem dX3_init_21 : decode cX3_init 21 = .ok (.iconst 2, 1) := by decide +kernel
theorem dX3_init_22 : decode cX3_init 22 = .ok (.newarray .int, 2) := by decide +kernel
theorem dX3_init_24 : decode cX3_init 24 = .ok (.putfield 21, 3) := by decide +kernel
theorem dX3_init_27 : decode cX3_init 27 = .ok (.aload_n 0, 1) := by decide +kernel
theorem dX3_init_28 : decode cX3_init 28 = .ok (.bipush 10, 2) := by decide +kernel
theorem dX3_init_30 : decode cX3_init 30 = .ok (.newarray .int, 2) := by decide +kernel
theorem dX3_init_32 : decode cX3_init 32 = .ok (.putfield 24, 3) := by decide +kernel
theorem dX3_init_35 : decode cX3_init 35 = .ok (.aload_n 0, 1) := by decide +kernel
theorem dX3_init_36 : decode cX3_init 36 = .ok (.bipush 10, 2) := by decide +kernel
theorem dX3_init_38 : decode cX3_init 38 = .ok (.newarray .boolean, 2) := by decide +kernel
theorem dX3_init_40 : decode cX3_init 40 = .ok (.putfield 27, 3) := by decide +kernel
theorem dX3_init_43 : decode cX3_init 43 = .ok (.aload_n 0, 1) := by decide +kernel
theorem dX3_init_44 : decode cX3_init 44 = .ok (.iconst 0, 1) := by decide +kernel
theorem dX3_init_45 : decode cX3_init 45 = .ok (.putfield 31, 3) := by decide +kernel
theorem dX3_init_48 : decode cX3_init 48 = .ok (.aload_n 0, 1) := by decide +kernel
theorem dX3_init_49 : decode cX3_init 49 = .ok (.iconst 0, 1) := by decide +kernel
theorem dX3_init_50 : decode cX3_init 50 = .ok (.putfield 35, 3) := by decide +kernel
theorem dX3_init_53 : decode cX3_init 53 = .ok (.aload_n 0, 1) := by decide +kernel
theorem dX3_init_54 : decode cX3_init 54 = .ok (.iconst 0, 1) := by decide +kernel
theorem dX3_init_55 : decode cX3_init 55 = .ok (.putfield 38, 3) := by decide +kernel
theorem dX3_init_58 : decode cX3_init 58 = .ok (.aload_n 0, 1) := by decide +kernel
theorem dX3_init_59 : decode cX3_init 59 = .ok (.iconst 0, 1) := by decide +kernel
theorem dX3_init_60 : decode cX3_init 60 = .ok (.putfield 41, 3) := by decide +kernel
theorem dX3_init_63 : decode cX3_init 63 = .ok (.aload_n 0, 1) := by decide +kernel
theorem dX3_init_64 : decode cX3_init 64 = .ok (.iconst 0, 1) := by decide +kernel
theorem dX3_init_65 : decode cX3_init 65 = .ok (.putfield 44, 3) := by decide +kernel
theorem dX3_init_68 : decode cX3_init 68 = .ok (.aload_n 0, 1) := by decide +kernel
theorem dX3_init_69 : decode cX3_init 69 = .ok (.iconst 0, 1) := by decide +kernel
theorem dX3_init_70 : decode cX3_init 70 = .ok (.putfield 47, 3) := by decide +kernel
theorem dX3_init_73 : decode cX3_init 73 = .ok (.aload_n 0, 1) := by decide +kernel
theorem dX3_init_74 : decode cX3_init 74 = .ok (.iconst 0, 1) := by decide +kernel
theorem dX3_init_75 : decode cX3_init 75 = .ok (.putfield 50, 3) := by decide +kernel
theorem dX3_init_78 : decode cX3_init 78 = .ok (.aload_n 0, 1) := by decide +kernel
theorem dX3_init_79 : decode cX3_init 79 = .ok (.iconst 0, 1) := by decide +kernel
theorem dX3_init_80 : decode cX3_init 80 = .ok (.putfield 53, 3) := by decide +kernel
theorem dX3_init_83 : decode cX3_init 83 = .ok (.aload_n 0, 1) := by decide +kernel
theorem dX3_init_84 : decode cX3_init 84 = .ok (.iconst 0, 1) := by decide +kernel
theorem dX3_init_85 : decode cX3_init 85 = .ok (.putfield 56, 3) := by decide +kernel
theorem dX3_init_88 : decode cX3_init 88 = .ok (.iconst 0, 1) := by decide +kernel
theorem dX3_init_89 : decode cX3_init 89 = .ok (.istore_n 1, 1) := by decide +kernel
theorem dX3_init_90 : decode cX3_init 90 = .ok (.iload_n 1, 1) := by decide +kernel
theorem dX3_init_91 : decode cX3_init 91 = .ok (.bipush 6, 2) := by decide +kernel
theorem dX3_init_93 : decode cX3_init 93 = .ok (.if_icmp .ge 22, 3) := by decide +kernel
theorem dX3_init_96 : decode cX3_init 96 = .ok (.aload_n 0, 1) := by decide +kernel
theorem dX3_init_97 : decode cX3_init 97 = .ok (.getfield 11, 3) := by decide +kernel
theorem dX3_init_100 : decode cX3_init 100 = .ok (.iload_n 1, 1) := by decide +kernel
theorem dX3_init_101 : decode cX3_init 101 = .ok (.new 9, 3) := by decide +kernel
theorem dX3_init_104 : decode cX3_init 104 = .ok (.dup, 1) := by decide +kernel
theorem dX3_init_105 : decode cX3_init 105 = .ok (.invokespecial 59, 3) := by decide +kernel
theorem dX3_init_108 : decode cX3_init 108 = .ok (.aastore, 1) := by decide +kernel
theorem dX3_init_109 : decode cX3_init 109 = .ok (.iinc 1 1, 3) := by decide +kernel
theorem dX3_init_112 : decode cX3_init 112 = .ok (.goto (-22), 3) := by decide +kernel
theorem dX3_init_115 : decode cX3_init 115 = .ok (.iconst 0, 1) := by decide +kernel
theorem dX3_init_116 : decode cX3_init 116 = .ok (.istore_n 1, 1) := by decide +kernel
theorem dX3_init_117 : decode cX3_init 117 = .ok (.iload_n 1, 1) := by decide +kernel
theorem dX3_init_118 : decode cX3_init 118 = .ok (.iconst 2, 1) := by decide +kernel
theorem dX3_init_119 : decode cX3_init 119 = .ok (.if_icmp .ge 16, 3) := by decide +kernel
theorem dX3_init_122 : decode cX3_init 122 = .ok (.aload_n 0, 1) := by decide +kernel
theorem dX3_init_123 : decode cX3_init 123 = .ok (.getfield 17, 3) := by decide +kernel
theorem dX3_init_126 : decode cX3_init 126 = .ok (.iload_n 1, 1) := by decide +kernel
theorem dX3_init_127 : decode cX3_init 127 = .ok (.iconst (-1), 1) := by decide +kernel
theorem dX3_init_128 : decode cX3_init 128 = .ok (.iastore, 1) := by decide +kernel
theorem dX3_init_129 : decode cX3_init 129 = .ok (.iinc 1 1, 3) := by decide +kernel
theorem dX3_init_132 : decode cX3_init 132 = .ok (.goto (-15), 3) := by decide +kernel
theorem dX3_init_135 : decode cX3_init 135 = .ok (.return_, 1) := by decide +kernel
theorem dX3_copyFrom_0 : decode cX3_copyFrom 0 = .ok (.iconst 0, 1) := by decide +kernel
theorem dX3_copyFrom_1 : decode cX3_copyFrom 1 = .ok (.istore_n 2, 1) := by decide +kernel
theorem dX3_copyFrom_2 : decode cX3_copyFrom 2 = .ok (.iload_n 2, 1) := by decide +kernel
theorem dX3_copyFrom_3 : decode cX3_copyFrom 3 = .ok (.bipush 6, 2) := by decide +kernel
theorem dX3_copyFrom_5 : decode cX3_copyFrom 5 = .ok (.if_icmp .ge 24, 3) := by decide +kernel
theorem dX3_copyFrom_8 : decode cX3_copyFrom 8 = .ok (.aload_n 0, 1) := by decide +kernel
theorem dX3_copyFrom_9 : decode cX3_copyFrom 9 = .ok (.getfield 11, 3) := by decide +kernel
theorem dX3_copyFrom_12 : decode cX3_copyFrom 12 = .ok (.iload_n 2, 1) := by decide +kernel
theorem dX3_copyFrom_13 : decode cX3_copyFrom 13 = .ok (.aaload, 1) := by decide +kernel
theorem dX3_copyFrom_14 : decode cX3_copyFrom 14 = .ok (.aload_n 1, 1) := by decide +kernel
theorem dX3_copyFrom_15 : decode cX3_copyFrom 15 = .ok (.getfield 11, 3) := by decide +kernel
theorem dX3_copyFrom_18 : decode cX3_copyFrom 18 = .ok (.iload_n 2, 1) := by decide +kernel
theorem dX3_copyFrom_19 : decode cX3_copyFrom 19 = .ok (.aaload, 1) := by decide +kernel
theorem dX3_copyFrom_20 : decode cX3_copyFrom 20 = .ok (.invokevirtual 60, 3) := by decide +kernel
theorem dX3_copyFrom_23 : decode cX3_copyFrom 23 = .ok (.iinc 2 1, 3) := by decide +kernel
theorem dX3_copyFrom_26 : decode cX3_copyFrom 26 = .ok (.goto (-24), 3) := by decide +kernel
theorem dX3_copyFrom_29 : decode cX3_copyFrom 29 = .ok (.aload_n 1, 1) := by decide +kernel
theorem dX3_copyFrom_30 : decode cX3_copyFrom 30 = .ok (.getfield 17, 3) := by decide +kernel
theorem dX3_copyFrom_33 : decode cX3_copyFrom 33 = .ok (.iconst 0, 1) := by decide +kernel
theorem dX3_copyFrom_34 : decode cX3_copyFrom 34 = .ok (.aload_n 0, 1) := by decide +kernel
theorem dX3_copyFrom_35 : decode cX3_copyFrom 35 = .ok (.getfield 17, 3) := by decide +kernel
theorem dX3_copyFrom_38 : decode cX3_copyFrom 38 = .ok (.iconst 0, 1) := by decide +kernel
theorem dX3_copyFrom_39 : decode cX3_copyFrom 39 = .ok (.iconst 2, 1) := by decide +kernel
theorem dX3_copyFrom_40 : decode cX3_copyFrom 40 = .ok (.invokestatic 64, 3) := by decide +kernel
theorem dX3_copyFrom_43 : decode cX3_copyFrom 43 = .ok (.aload_n 1, 1) := by decide +kernel
theorem dX3_copyFrom_44 : decode cX3_copyFrom 44 = .ok (.getfield 21, 3) := by decide +kernel
theorem dX3_copyFrom_47 : decode cX3_copyFrom 47 = .ok (.iconst 0, 1) := by decide +kernel
theorem dX3_copyFrom_48 : decode cX3_copyFrom 48 = .ok (.aload_n 0, 1) := by decide +kernel
theorem dX3_copyFrom_49 : decode cX3_copyFrom 49 = .ok (.getfield 21, 3) := by decide +kernel
theorem dX3_copyFrom_52 : decode cX3_copyFrom 52 = .ok (.iconst 0, 1) := by decide +kernel
theorem dX3_copyFrom_53 : decode cX3_copyFrom 53 = .ok (.iconst 2, 1) := by decide +kernel
theorem dX3_copyFrom_54 : decode cX3_copyFrom 54 = .ok (.invokestatic 64, 3) := by decide +kernel
theorem dX3_copyFrom_57 : decode cX3_copyFrom 57 = .ok (.iconst 0, 1) := by decide +kernel
theorem dX3_copyFrom_58 : decode cX3_copyFrom 58 = .ok (.istore_n 2, 1) := by decide +kernel
theorem dX3_copyFrom_59 : decode cX3_copyFrom 59 = .ok (.iload_n 2, 1) := by decide +kernel
theorem dX3_copyFrom_60 : decode cX3_copyFrom 60 = .ok (.bipush 10, 2) := by decide +kernel
theorem dX3_copyFrom_62 : decode cX3_copyFrom 62 = .ok (.if_icmp .ge 33, 3) := by decide +kernel
theorem dX3_copyFrom_65 : decode cX3_copyFrom 65 = .ok (.aload_n 0, 1) := by decide +kernel
theorem dX3_copyFrom_66 : decode cX3_copyFrom 66 = .ok (.getfield 24, 3) := by decide +kernel
theorem dX3_copyFrom_69 : decode cX3_copyFrom 69 = .ok (.iload_n 2, 1) := by decide +kernel
theorem dX3_copyFrom_70 : decode cX3_copyFrom 70 = .ok (.aload_n 1, 1) := by decide +kernel
theorem dX3_copyFrom_71 : decode cX3_copyFrom 71 = .ok (.getfield 24, 3) := by decide +kernel
theorem dX3_copyFrom_74 : decode cX3_copyFrom 74 = .ok (.iload_n 2, 1) := by decide +kernel
theorem dX3_copyFrom_75 : decode cX3_copyFrom 75 = .ok (.iaload, 1) := by decide +kernel
theorem dX3_copyFrom_76 : decode cX3_copyFrom 76 = .ok (.iastore, 1) := by decide +kernel
theorem dX3_copyFrom_77 : decode cX3_copyFrom 77 = .ok (.aload_n 0, 1) := by decide +kernel
theorem dX3_copyFrom_78 : decode cX3_copyFrom 78 = .ok (.getfield 27, 3) := by decide +kernel
theorem dX3_copyFrom_81 : decode cX3_copyFrom 81 = .ok (.iload_n 2, 1) := by decide +kernel
theorem dX3_copyFrom_82 : decode cX3_copyFrom 82 = .ok (.aload_n 1, 1) := by decide +kernel
theorem dX3_copyFrom_83 : decode cX3_copyFrom 83 = .ok (.getfield 27, 3) := by decide +kernel
theorem dX3_copyFrom_86 : decode cX3_copyFrom 86 = .ok (.iload_n 2, 1) := by decide +kernel
theorem dX3_copyFrom_87 : decode cX3_copyFrom 87 = .ok (.baload, 1) := by decide +kernel
theorem dX3_copyFrom_88 : decode cX3_copyFrom 88 = .ok (.bastore, 1) := by decide +kernel
theorem dX3_copyFrom_89 : decode cX3_copyFrom 89 = .ok (.iinc 2 1, 3) := by decide +kernel
theorem dX3_copyFrom_92 : decode cX3_copyFrom 92 = .ok (.goto (-33), 3) := by decide +kernel
theorem dX3_copyFrom_95 : decode cX3_copyFrom 95 = .ok (.aload_n 0, 1) := by decide +kernel
theorem dX3_copyFrom_96 : decode cX3_copyFrom 96 = .ok (.aload_n 1, 1) := by decide +kernel
theorem dX3_copyFrom_97 : decode cX3_copyFrom 97 = .ok (.getfield 31, 3) := by decide +kernel
theorem dX3_copyFrom_100 : decode cX3_copyFrom 100 = .ok (.putfield 31, 3) := by decide +kernel
theorem dX3_copyFrom_103 : decode cX3_copyFrom 103 = .ok (.aload_n 0, 1) := by decide +kernel
theorem dX3_copyFrom_104 : decode cX3_copyFrom 104 = .ok (.aload_n 1, 1) := by decide +kernel
theorem dX3_copyFrom_105 : decode cX3_copyFrom 105 = .ok (.getfield 35, 3) := by decide +kernel
theorem dX3_copyFrom_108 : decode cX3_copyFrom 108 = .ok (.putfield 35, 3) := by decide +kernel
theorem dX3_copyFrom_111 : decode cX3_copyFrom 111 = .ok (.aload_n 0, 1) := by decide +kernel
theorem dX3_copyFrom_112 : decode cX3_copyFrom 112 = .ok (.aload_n 1, 1) := by decide +kernel
theorem dX3_copyFrom_113 : decode cX3_copyFrom 113 = .ok (.getfield 38, 3) := by decide +kernel
theorem dX3_copyFrom_116 : decode cX3_copyFrom 116 = .ok (.putfield 38, 3) := by decide +kernel
theorem dX3_copyFrom_119 : decode cX3_copyFrom 119 = .ok (.aload_n 0, 1) := by decide +kernel
theorem dX3_copyFrom_120 : decode cX3_copyFrom 120 = .ok (.aload_n 1, 1) := by decide +kernel
theorem dX3_copyFrom_121 : decode cX3_copyFrom 121 = .ok (.getfield 41, 3) := by decide +kernel
theorem dX3_copyFrom_124 : decode cX3_copyFrom 124 = .ok (.putfield 41, 3) := by decide +kernel
theorem dX3_copyFrom_127 : decode cX3_copyFrom 127 = .ok (.aload_n 0, 1) := by decide +kernel
theorem dX3_copyFrom_128 : decode cX3_copyFrom 128 = .ok (.aload_n 1, 1) := by decide +kernel
theorem dX3_copyFrom_129 : decode cX3_copyFrom 129 = .ok (.getfield 44, 3) := by decide +kernel
theorem dX3_copyFrom_132 : decode cX3_copyFrom 132 = .ok (.putfield 44, 3) := by decide +kernel
theorem dX3_copyFrom_135 : decode cX3_copyFrom 135 = .ok (.aload_n 0, 1) := by decide +kernel
theorem dX3_copyFrom_136 : decode cX3_copyFrom 136 = .ok (.aload_n 1, 1) := by decide +kernel
theorem dX3_copyFrom_137 : decode cX3_copyFrom 137 = .ok (.getfield 47, 3) := by decide +kernel
theorem dX3_copyFrom_140 : decode cX3_copyFrom 140 = .ok (.putfield 47, 3) := by decide +kernel
theorem dX3_copyFrom_143 : decode cX3_copyFrom 143 = .ok (.aload_n 0, 1) := by decide +kernel
theorem dX3_copyFrom_144 : decode cX3_copyFrom 144 = .ok (.aload_n 1, 1) := by decide +kernel
theorem dX3_copyFrom_145 : decode cX3_copyFrom 145 = .ok (.getfield 50, 3) := by decide +kernel
theorem dX3_copyFrom_148 : decode cX3_copyFrom 148 = .ok (.putfield 50, 3) := by decide +kernel
theorem dX3_copyFrom_151 : decode cX3_copyFrom 151 = .ok (.aload_n 0, 1) := by decide +kernel
theorem dX3_copyFrom_152 : decode cX3_copyFrom 152 = .ok (.aload_n 1, 1) := by decide +kernel
theorem dX3_copyFrom_153 : decode cX3_copyFrom 153 = .ok (.getfield 53, 3) := by decide +kernel
theorem dX3_copyFrom_156 : decode cX3_copyFrom 156 = .ok (.putfield 53, 3) := by decide +kernel
theorem dX3_copyFrom_159 : decode cX3_copyFrom 159 = .ok (.aload_n 0, 1) := by decide +kernel
theorem dX3_copyFrom_160 : decode cX3_copyFrom 160 = .ok (.aload_n 1, 1) := by decide +kernel
theorem dX3_copyFrom_161 : decode cX3_copyFrom 161 = .ok (.getfield 56, 3) := by decide +kernel
theorem dX3_copyFrom_164 : decode cX3_copyFrom 164 = .ok (.putfield 56, 3) := by decide +kernel
theorem dX3_copyFrom_167 : decode cX3_copyFrom 167 = .ok (.return_, 1) := by decide +kernel
theorem dX3_hasDoor_0 : decode cX3_hasDoor 0 = .ok (.iload_n 1, 1) := by decide +kernel
theorem dX3_hasDoor_1 : decode cX3_hasDoor 1 = .ok (.ifCond .lt 15, 3) := by decide +kernel
theorem dX3_hasDoor_4 : decode cX3_hasDoor 4 = .ok (.iload_n 1, 1) := by decide +kernel
theorem dX3_hasDoor_5 : decode cX3_hasDoor 5 = .ok (.aload_n 0, 1) := by decide +kernel
theorem dX3_hasDoor_6 : decode cX3_hasDoor 6 = .ok (.getfield 31, 3) := by decide +kernel
theorem dX3_hasDoor_9 : decode cX3_hasDoor 9 = .ok (.if_icmp .ge 7, 3) := by decide +kernel
theorem dX3_hasDoor_12 : decode cX3_hasDoor 12 = .ok (.iconst 1, 1) := by decide +kernel
theorem dX3_hasDoor_13 : decode cX3_hasDoor 13 = .ok (.goto 4, 3) := by decide +kernel
theorem dX3_hasDoor_16 : decode cX3_hasDoor 16 = .ok (.iconst 0, 1) := by decide +kernel
theorem dX3_hasDoor_17 : decode cX3_hasDoor 17 = .ok (.ireturn, 1) := by decide +kernel
theorem dX3_isInOven_0 : decode cX3_isInOven 0 = .ok (.iconst 0, 1) := by decide +kernel
theorem dX3_isInOven_1 : decode cX3_isInOven 1 = .ok (.istore_n 2, 1) := by decide +kernel
theorem dX3_isInOven_2 : decode cX3_isInOven 2 = .ok (.iload_n 2, 1) := by decide +kernel
theorem dX3_isInOven_3 : decode cX3_isInOven 3 = .ok (.iconst 2, 1) := by decide +kernel
theorem dX3_isInOven_4 : decode cX3_isInOven 4 = .ok (.if_icmp .ge 21, 3) := by decide +kernel
theorem dX3_isInOven_7 : decode cX3_isInOven 7 = .ok (.aload_n 0, 1) := by decide +kernel
theorem dX3_isInOven_8 : decode cX3_isInOven 8 = .ok (.getfield 17, 3) := by decide +kernel
theorem dX3_isInOven_11 : decode cX3_isInOven 11 = .ok (.iload_n 2, 1) := by decide +kernel
theorem dX3_isInOven_12 : decode cX3_isInOven 12 = .ok (.iaload, 1) := by decide +kernel
theorem dX3_isInOven_13 : decode cX3_isInOven 13 = .ok (.iload_n 1, 1) := by decide +kernel
theorem dX3_isInOven_14 : decode cX3_isInOven 14 = .ok (.if_icmp .ne 5, 3) := by decide +kernel
theorem dX3_isInOven_17 : decode cX3_isInOven 17 = .ok (.iconst 1, 1) := by decide +kernel
theorem dX3_isInOven_18 : decode cX3_isInOven 18 = .ok (.ireturn, 1) := by decide +kernel
theorem dX3_isInOven_19 : decode cX3_isInOven 19 = .ok (.iinc 2 1, 3) := by decide +kernel
theorem dX3_isInOven_22 : decode cX3_isInOven 22 = .ok (.goto (-20), 3) := by decide +kernel
theorem dX3_isInOven_25 : decode cX3_isInOven 25 = .ok (.iconst 0, 1) := by decide +kernel
theorem dX3_isInOven_26 : decode cX3_isInOven 26 = .ok (.ireturn, 1) := by decide +kernel
theorem dX3_refusalOf_0 : decode cX3_refusalOf 0 = .ok (.getstatic 70, 3) := by decide +kernel
theorem dX3_refusalOf_3 : decode cX3_refusalOf 3 = .ok (.aload_n 1, 1) := by decide +kernel
theorem dX3_refusalOf_4 : decode cX3_refusalOf 4 = .ok (.invokevirtual 75, 3) := by decide +kernel
theorem dX3_refusalOf_7 : decode cX3_refusalOf 7 = .ok (.iaload, 1) := by decide +kernel
theorem dX3_refusalOf_8 : decode cX3_refusalOf 8 = .ok (.tableswitch 112 1 7 #[44, 53, 62, 68, 74, 94, 101], 44) := by decide +kernel
theorem dX3_refusalOf_52 : decode cX3_refusalOf 52 = .ok (.aload_n 0, 1) := by decide +kernel
theorem dX3_refusalOf_53 : decode cX3_refusalOf 53 = .ok (.iload_n 2, 1) := by decide +kernel
theorem dX3_refusalOf_54 : decode cX3_refusalOf 54 = .ok (.iload_n 3, 1) := by decide +kernel
theorem dX3_refusalOf_55 : decode cX3_refusalOf 55 = .ok (.iload 4, 2) := by decide +kernel
theorem dX3_refusalOf_57 : decode cX3_refusalOf 57 = .ok (.invokevirtual 81, 3) := by decide +kernel
theorem dX3_refusalOf_60 : decode cX3_refusalOf 60 = .ok (.areturn, 1) := by decide +kernel
theorem dX3_refusalOf_61 : decode cX3_refusalOf 61 = .ok (.aload_n 0, 1) := by decide +kernel
theorem dX3_refusalOf_62 : decode cX3_refusalOf 62 = .ok (.iload_n 2, 1) := by decide +kernel
theorem dX3_refusalOf_63 : decode cX3_refusalOf 63 = .ok (.iload_n 3, 1) := by decide +kernel
theorem dX3_refusalOf_64 : decode cX3_refusalOf 64 = .ok (.iload 4, 2) := by decide +kernel
theorem dX3_refusalOf_66 : decode cX3_refusalOf 66 = .ok (.invokevirtual 85, 3) := by decide +kernel
theorem dX3_refusalOf_69 : decode cX3_refusalOf 69 = .ok (.areturn, 1) := by decide +kernel
theorem dX3_refusalOf_70 : decode cX3_refusalOf 70 = .ok (.aload_n 0, 1) := by decide +kernel
theorem dX3_refusalOf_71 : decode cX3_refusalOf 71 = .ok (.iload_n 2, 1) := by decide +kernel
theorem dX3_refusalOf_72 : decode cX3_refusalOf 72 = .ok (.invokevirtual 88, 3) := by decide +kernel
theorem dX3_refusalOf_75 : decode cX3_refusalOf 75 = .ok (.areturn, 1) := by decide +kernel
theorem dX3_refusalOf_76 : decode cX3_refusalOf 76 = .ok (.aload_n 0, 1) := by decide +kernel
theorem dX3_refusalOf_77 : decode cX3_refusalOf 77 = .ok (.iload_n 2, 1) := by decide +kernel
theorem dX3_refusalOf_78 : decode cX3_refusalOf 78 = .ok (.invokevirtual 92, 3) := by decide +kernel
theorem dX3_refusalOf_81 : decode cX3_refusalOf 81 = .ok (.areturn, 1) := by decide +kernel
theorem dX3_refusalOf_82 : decode cX3_refusalOf 82 = .ok (.iload_n 2, 1) := by decide +kernel
theorem dX3_refusalOf_83 : decode cX3_refusalOf 83 = .ok (.ifCond .lt 9, 3) := by decide +kernel
theorem dX3_refusalOf_86 : decode cX3_refusalOf 86 = .ok (.iload_n 2, 1) := by decide +kernel
theorem dX3_refusalOf_87 : decode cX3_refusalOf 87 = .ok (.bipush 9, 2) := by decide +kernel
theorem dX3_refusalOf_89 : decode cX3_refusalOf 89 = .ok (.if_icmp .le 9, 3) := by decide +kernel
theorem dX3_refusalOf_92 : decode cX3_refusalOf 92 = .ok (.getstatic 95, 3) := by decide +kernel
theorem dX3_refusalOf_95 : decode cX3_refusalOf 95 = .ok (.goto 6, 3) := by decide +kernel
theorem dX3_refusalOf_98 : decode cX3_refusalOf 98 = .ok (.getstatic 101, 3) := by decide +kernel
theorem dX3_refusalOf_101 : decode cX3_refusalOf 101 = .ok (.areturn, 1) := by decide +kernel
theorem dX3_refusalOf_102 : decode cX3_refusalOf 102 = .ok (.aload_n 0, 1) := by decide +kernel
theorem dX3_refusalOf_103 : decode cX3_refusalOf 103 = .ok (.iload_n 2, 1) := by decide +kernel
theorem dX3_refusalOf_104 : decode cX3_refusalOf 104 = .ok (.iload_n 3, 1) := by decide +kernel
theorem dX3_refusalOf_105 : decode cX3_refusalOf 105 = .ok (.invokevirtual 104, 3) := by decide +kernel
theorem dX3_refusalOf_108 : decode cX3_refusalOf 108 = .ok (.areturn, 1) := by decide +kernel
theorem dX3_refusalOf_109 : decode cX3_refusalOf 109 = .ok (.aload_n 0, 1) := by decide +kernel
theorem dX3_refusalOf_110 : decode cX3_refusalOf 110 = .ok (.iload_n 2, 1) := by decide +kernel
theorem dX3_refusalOf_111 : decode cX3_refusalOf 111 = .ok (.iload_n 3, 1) := by decide +kernel
theorem dX3_refusalOf_112 : decode cX3_refusalOf 112 = .ok (.iload 4, 2) := by decide +kernel
theorem dX3_refusalOf_114 : decode cX3_refusalOf 114 = .ok (.iload 5, 2) := by decide +kernel
theorem dX3_refusalOf_116 : decode cX3_refusalOf 116 = .ok (.invokevirtual 108, 3) := by decide +kernel
theorem dX3_refusalOf_119 : decode cX3_refusalOf 119 = .ok (.areturn, 1) := by decide +kernel
theorem dX3_refusalOf_120 : decode cX3_refusalOf 120 = .ok (.iload_n 2, 1) := by decide +kernel
theorem dX3_refusalOf_121 : decode cX3_refusalOf 121 = .ok (.iconst 1, 1) := by decide +kernel
theorem dX3_refusalOf_122 : decode cX3_refusalOf 122 = .ok (.if_icmp .lt 9, 3) := by decide +kernel
theorem dX3_refusalOf_125 : decode cX3_refusalOf 125 = .ok (.iload_n 2, 1) := by decide +kernel
theorem dX3_refusalOf_126 : decode cX3_refusalOf 126 = .ok (.bipush 60, 2) := by decide +kernel
theorem dX3_refusalOf_128 : decode cX3_refusalOf 128 = .ok (.if_icmp .le 9, 3) := by decide +kernel
theorem dX3_refusalOf_131 : decode cX3_refusalOf 131 = .ok (.getstatic 95, 3) := by decide +kernel
theorem dX3_refusalOf_134 : decode cX3_refusalOf 134 = .ok (.goto 6, 3) := by decide +kernel
theorem dX3_refusalOf_137 : decode cX3_refusalOf 137 = .ok (.getstatic 101, 3) := by decide +kernel
theorem dX3_refusalOf_140 : decode cX3_refusalOf 140 = .ok (.areturn, 1) := by decide +kernel
theorem dX3_refusalOfDoor_0 : decode cX3_refusalOfDoor 0 = .ok (.iload_n 1, 1) := by decide +kernel
theorem dX3_refusalOfDoor_1 : decode cX3_refusalOfDoor 1 = .ok (.iload_n 2, 1) := by decide +kernel
theorem dX3_refusalOfDoor_2 : decode cX3_refusalOfDoor 2 = .ok (.iload_n 3, 1) := by decide +kernel
theorem dX3_refusalOfDoor_3 : decode cX3_refusalOfDoor 3 = .ok (.invokestatic 112, 3) := by decide +kernel
theorem dX3_refusalOfDoor_6 : decode cX3_refusalOfDoor 6 = .ok (.ifCond .eq 7, 3) := by decide +kernel
theorem dX3_refusalOfDoor_9 : decode cX3_refusalOfDoor 9 = .ok (.getstatic 95, 3) := by decide +kernel
theorem dX3_refusalOfDoor_12 : decode cX3_refusalOfDoor 12 = .ok (.areturn, 1) := by decide +kernel
theorem dX3_refusalOfDoor_13 : decode cX3_refusalOfDoor 13 = .ok (.aload_n 0, 1) := by decide +kernel
theorem dX3_refusalOfDoor_14 : decode cX3_refusalOfDoor 14 = .ok (.getfield 31, 3) := by decide +kernel
theorem dX3_refusalOfDoor_17 : decode cX3_refusalOfDoor 17 = .ok (.bipush 6, 2) := by decide +kernel
theorem dX3_refusalOfDoor_19 : decode cX3_refusalOfDoor 19 = .ok (.if_icmp .lt 9, 3) := by decide +kernel
theorem dX3_refusalOfDoor_22 : decode cX3_refusalOfDoor 22 = .ok (.getstatic 116, 3) := by decide +kernel
theorem dX3_refusalOfDoor_25 : decode cX3_refusalOfDoor 25 = .ok (.goto 6, 3) := by decide +kernel
theorem dX3_refusalOfDoor_28 : decode cX3_refusalOfDoor 28 = .ok (.getstatic 101, 3) := by decide +kernel
theorem dX3_refusalOfDoor_31 : decode cX3_refusalOfDoor 31 = .ok (.areturn, 1) := by decide +kernel
theorem dX3_refusalOfTurn_0 : decode cX3_refusalOfTurn 0 = .ok (.aload_n 0, 1) := by decide +kernel
theorem dX3_refusalOfTurn_1 : decode cX3_refusalOfTurn 1 = .ok (.iload_n 1, 1) := by decide +kernel
theorem dX3_refusalOfTurn_2 : decode cX3_refusalOfTurn 2 = .ok (.invokevirtual 119, 3) := by decide +kernel
theorem dX3_refusalOfTurn_5 : decode cX3_refusalOfTurn 5 = .ok (.ifCond .eq 10, 3) := by decide +kernel
theorem dX3_refusalOfTurn_8 : decode cX3_refusalOfTurn 8 = .ok (.iload_n 2, 1) := by decide +kernel
theorem dX3_refusalOfTurn_9 : decode cX3_refusalOfTurn 9 = .ok (.invokestatic 123, 3) := by decide +kernel
theorem dX3_refusalOfTurn_12 : decode cX3_refusalOfTurn 12 = .ok (.ifCond .ne 7, 3) := by decide +kernel
theorem dX3_refusalOfTurn_15 : decode cX3_refusalOfTurn 15 = .ok (.getstatic 126, 3) := by decide +kernel
theorem dX3_refusalOfTurn_18 : decode cX3_refusalOfTurn 18 = .ok (.areturn, 1) := by decide +kernel
theorem dX3_refusalOfTurn_19 : decode cX3_refusalOfTurn 19 = .ok (.iload_n 3, 1) := by decide +kernel
theorem dX3_refusalOfTurn_20 : decode cX3_refusalOfTurn 20 = .ok (.bipush (-9), 2) := by decide +kernel
theorem dX3_refusalOfTurn_22 : decode cX3_refusalOfTurn 22 = .ok (.if_icmp .lt 9, 3) := by decide +kernel
theorem dX3_refusalOfTurn_25 : decode cX3_refusalOfTurn 25 = .ok (.iload_n 3, 1) := by decide +kernel
theorem dX3_refusalOfTurn_26 : decode cX3_refusalOfTurn 26 = .ok (.bipush 9, 2) := by decide +kernel
theorem dX3_refusalOfTurn_28 : decode cX3_refusalOfTurn 28 = .ok (.if_icmp .le 7, 3) := by decide +kernel
theorem dX3_refusalOfTurn_31 : decode cX3_refusalOfTurn 31 = .ok (.getstatic 95, 3) := by decide +kernel
theorem dX3_refusalOfTurn_34 : decode cX3_refusalOfTurn 34 = .ok (.areturn, 1) := by decide +kernel
theorem dX3_refusalOfTurn_35 : decode cX3_refusalOfTurn 35 = .ok (.aload_n 0, 1) := by decide +kernel
theorem dX3_refusalOfTurn_36 : decode cX3_refusalOfTurn 36 = .ok (.iload_n 1, 1) := by decide +kernel
theorem dX3_refusalOfTurn_37 : decode cX3_refusalOfTurn 37 = .ok (.invokevirtual 129, 3) := by decide +kernel
theorem dX3_refusalOfTurn_40 : decode cX3_refusalOfTurn 40 = .ok (.ifCond .eq 9, 3) := by decide +kernel
theorem dX3_refusalOfTurn_43 : decode cX3_refusalOfTurn 43 = .ok (.getstatic 116, 3) := by decide +kernel
theorem dX3_refusalOfTurn_46 : decode cX3_refusalOfTurn 46 = .ok (.goto 6, 3) := by decide +kernel
theorem dX3_refusalOfTurn_49 : decode cX3_refusalOfTurn 49 = .ok (.getstatic 101, 3) := by decide +kernel
theorem dX3_refusalOfTurn_52 : decode cX3_refusalOfTurn 52 = .ok (.areturn, 1) := by decide +kernel
theorem dX3_refusalOfTry_0 : decode cX3_refusalOfTry 0 = .ok (.aload_n 0, 1) := by decide +kernel
theorem dX3_refusalOfTry_1 : decode cX3_refusalOfTry 1 = .ok (.iload_n 1, 1) := by decide +kernel
theorem dX3_refusalOfTry_2 : decode cX3_refusalOfTry 2 = .ok (.invokevirtual 119, 3) := by decide +kernel
theorem dX3_refusalOfTry_5 : decode cX3_refusalOfTry 5 = .ok (.ifCond .ne 7, 3) := by decide +kernel
theorem dX3_refusalOfTry_8 : decode cX3_refusalOfTry 8 = .ok (.getstatic 126, 3) := by decide +kernel
theorem dX3_refusalOfTry_11 : decode cX3_refusalOfTry 11 = .ok (.areturn, 1) := by decide +kernel
theorem dX3_refusalOfTry_12 : decode cX3_refusalOfTry 12 = .ok (.aload_n 0, 1) := by decide +kernel
theorem dX3_refusalOfTry_13 : decode cX3_refusalOfTry 13 = .ok (.getfield 11, 3) := by decide +kernel
theorem dX3_refusalOfTry_16 : decode cX3_refusalOfTry 16 = .ok (.iload_n 1, 1) := by decide +kernel
theorem dX3_refusalOfTry_17 : decode cX3_refusalOfTry 17 = .ok (.aaload, 1) := by decide +kernel
theorem dX3_refusalOfTry_18 : decode cX3_refusalOfTry 18 = .ok (.getfield 132, 3) := by decide +kernel
theorem dX3_refusalOfTry_21 : decode cX3_refusalOfTry 21 = .ok (.ifCond .eq 9, 3) := by decide +kernel
theorem dX3_refusalOfTry_24 : decode cX3_refusalOfTry 24 = .ok (.getstatic 116, 3) := by decide +kernel
theorem dX3_refusalOfTry_27 : decode cX3_refusalOfTry 27 = .ok (.goto 6, 3) := by decide +kernel
theorem dX3_refusalOfTry_30 : decode cX3_refusalOfTry 30 = .ok (.getstatic 101, 3) := by decide +kernel
theorem dX3_refusalOfTry_33 : decode cX3_refusalOfTry 33 = .ok (.areturn, 1) := by decide +kernel
theorem dX3_refusalOfShut_0 : decode cX3_refusalOfShut 0 = .ok (.aload_n 0, 1) := by decide +kernel
theorem dX3_refusalOfShut_1 : decode cX3_refusalOfShut 1 = .ok (.iload_n 1, 1) := by decide +kernel
theorem dX3_refusalOfShut_2 : decode cX3_refusalOfShut 2 = .ok (.invokevirtual 119, 3) := by decide +kernel
theorem dX3_refusalOfShut_5 : decode cX3_refusalOfShut 5 = .ok (.ifCond .ne 7, 3) := by decide +kernel
theorem dX3_refusalOfShut_8 : decode cX3_refusalOfShut 8 = .ok (.getstatic 126, 3) := by decide +kernel
theorem dX3_refusalOfShut_11 : decode cX3_refusalOfShut 11 = .ok (.areturn, 1) := by decide +kernel
theorem dX3_refusalOfShut_12 : decode cX3_refusalOfShut 12 = .ok (.aload_n 0, 1) := by decide +kernel
theorem dX3_refusalOfShut_13 : decode cX3_refusalOfShut 13 = .ok (.getfield 11, 3) := by decide +kernel
theorem dX3_refusalOfShut_16 : decode cX3_refusalOfShut 16 = .ok (.iload_n 1, 1) := by decide +kernel
theorem dX3_refusalOfShut_17 : decode cX3_refusalOfShut 17 = .ok (.aaload, 1) := by decide +kernel
theorem dX3_refusalOfShut_18 : decode cX3_refusalOfShut 18 = .ok (.getfield 132, 3) := by decide +kernel
theorem dX3_refusalOfShut_21 : decode cX3_refusalOfShut 21 = .ok (.ifCond .eq 11, 3) := by decide +kernel
theorem dX3_refusalOfShut_24 : decode cX3_refusalOfShut 24 = .ok (.aload_n 0, 1) := by decide +kernel
theorem dX3_refusalOfShut_25 : decode cX3_refusalOfShut 25 = .ok (.iload_n 1, 1) := by decide +kernel
theorem dX3_refusalOfShut_26 : decode cX3_refusalOfShut 26 = .ok (.invokevirtual 129, 3) := by decide +kernel
theorem dX3_refusalOfShut_29 : decode cX3_refusalOfShut 29 = .ok (.ifCond .eq 7, 3) := by decide +kernel
theorem dX3_refusalOfShut_32 : decode cX3_refusalOfShut 32 = .ok (.getstatic 116, 3) := by decide +kernel
theorem dX3_refusalOfShut_35 : decode cX3_refusalOfShut 35 = .ok (.areturn, 1) := by decide +kernel
theorem dX3_refusalOfShut_36 : decode cX3_refusalOfShut 36 = .ok (.aload_n 0, 1) := by decide +kernel
theorem dX3_refusalOfShut_37 : decode cX3_refusalOfShut 37 = .ok (.getfield 11, 3) := by decide +kernel
theorem dX3_refusalOfShut_40 : decode cX3_refusalOfShut 40 = .ok (.iload_n 1, 1) := by decide +kernel
theorem dX3_refusalOfShut_41 : decode cX3_refusalOfShut 41 = .ok (.aaload, 1) := by decide +kernel
theorem dX3_refusalOfShut_42 : decode cX3_refusalOfShut 42 = .ok (.invokevirtual 136, 3) := by decide +kernel
theorem dX3_refusalOfShut_45 : decode cX3_refusalOfShut 45 = .ok (.ifCond .eq 9, 3) := by decide +kernel
theorem dX3_refusalOfShut_48 : decode cX3_refusalOfShut 48 = .ok (.getstatic 140, 3) := by decide +kernel
theorem dX3_refusalOfShut_51 : decode cX3_refusalOfShut 51 = .ok (.goto 6, 3) := by decide +kernel
theorem dX3_refusalOfShut_54 : decode cX3_refusalOfShut 54 = .ok (.getstatic 101, 3) := by decide +kernel
theorem dX3_refusalOfShut_57 : decode cX3_refusalOfShut 57 = .ok (.areturn, 1) := by decide +kernel
theorem dX3_refusalOfBake_0 : decode cX3_refusalOfBake 0 = .ok (.aload_n 0, 1) := by decide +kernel
theorem dX3_refusalOfBake_1 : decode cX3_refusalOfBake 1 = .ok (.iload_n 1, 1) := by decide +kernel
theorem dX3_refusalOfBake_2 : decode cX3_refusalOfBake 2 = .ok (.invokevirtual 119, 3) := by decide +kernel
theorem dX3_refusalOfBake_5 : decode cX3_refusalOfBake 5 = .ok (.ifCond .eq 10, 3) := by decide +kernel
theorem dX3_refusalOfBake_8 : decode cX3_refusalOfBake 8 = .ok (.iload_n 2, 1) := by decide +kernel
theorem dX3_refusalOfBake_9 : decode cX3_refusalOfBake 9 = .ok (.invokestatic 143, 3) := by decide +kernel
theorem dX3_refusalOfBake_12 : decode cX3_refusalOfBake 12 = .ok (.ifCond .ne 7, 3) := by decide +kernel
theorem dX3_refusalOfBake_15 : decode cX3_refusalOfBake 15 = .ok (.getstatic 126, 3) := by decide +kernel
theorem dX3_refusalOfBake_18 : decode cX3_refusalOfBake 18 = .ok (.areturn, 1) := by decide +kernel
theorem dX3_refusalOfBake_19 : decode cX3_refusalOfBake 19 = .ok (.aload_n 0, 1) := by decide +kernel
theorem dX3_refusalOfBake_20 : decode cX3_refusalOfBake 20 = .ok (.iload_n 1, 1) := by decide +kernel
theorem dX3_refusalOfBake_21 : decode cX3_refusalOfBake 21 = .ok (.invokevirtual 129, 3) := by decide +kernel
theorem dX3_refusalOfBake_24 : decode cX3_refusalOfBake 24 = .ok (.ifCond .eq 7, 3) := by decide +kernel
theorem dX3_refusalOfBake_27 : decode cX3_refusalOfBake 27 = .ok (.getstatic 116, 3) := by decide +kernel
theorem dX3_refusalOfBake_30 : decode cX3_refusalOfBake 30 = .ok (.areturn, 1) := by decide +kernel
theorem dX3_refusalOfBake_31 : decode cX3_refusalOfBake 31 = .ok (.aload_n 0, 1) := by decide +kernel
theorem dX3_refusalOfBake_32 : decode cX3_refusalOfBake 32 = .ok (.getfield 17, 3) := by decide +kernel
theorem dX3_refusalOfBake_35 : decode cX3_refusalOfBake 35 = .ok (.iload_n 2, 1) := by decide +kernel
theorem dX3_refusalOfBake_36 : decode cX3_refusalOfBake 36 = .ok (.iaload, 1) := by decide +kernel
theorem dX3_refusalOfBake_37 : decode cX3_refusalOfBake 37 = .ok (.iconst (-1), 1) := by decide +kernel
theorem dX3_refusalOfBake_38 : decode cX3_refusalOfBake 38 = .ok (.if_icmp .ne 9, 3) := by decide +kernel
theorem dX3_refusalOfBake_41 : decode cX3_refusalOfBake 41 = .ok (.getstatic 101, 3) := by decide +kernel
theorem dX3_refusalOfBake_44 : decode cX3_refusalOfBake 44 = .ok (.goto 6, 3) := by decide +kernel
theorem dX3_refusalOfBake_47 : decode cX3_refusalOfBake 47 = .ok (.getstatic 140, 3) := by decide +kernel
theorem dX3_refusalOfBake_50 : decode cX3_refusalOfBake 50 = .ok (.areturn, 1) := by decide +kernel
theorem dX3_refusalOfSet_0 : decode cX3_refusalOfSet 0 = .ok (.aload_n 0, 1) := by decide +kernel
theorem dX3_refusalOfSet_1 : decode cX3_refusalOfSet 1 = .ok (.iload_n 1, 1) := by decide +kernel
theorem dX3_refusalOfSet_2 : decode cX3_refusalOfSet 2 = .ok (.invokevirtual 119, 3) := by decide +kernel
theorem dX3_refusalOfSet_5 : decode cX3_refusalOfSet 5 = .ok (.ifCond .ne 7, 3) := by decide +kernel
theorem dX3_refusalOfSet_8 : decode cX3_refusalOfSet 8 = .ok (.getstatic 126, 3) := by decide +kernel
theorem dX3_refusalOfSet_11 : decode cX3_refusalOfSet 11 = .ok (.areturn, 1) := by decide +kernel
theorem dX3_refusalOfSet_12 : decode cX3_refusalOfSet 12 = .ok (.iload_n 2, 1) := by decide +kernel
theorem dX3_refusalOfSet_13 : decode cX3_refusalOfSet 13 = .ok (.iload_n 3, 1) := by decide +kernel
theorem dX3_refusalOfSet_14 : decode cX3_refusalOfSet 14 = .ok (.iload 4, 2) := by decide +kernel
theorem dX3_refusalOfSet_16 : decode cX3_refusalOfSet 16 = .ok (.invokestatic 112, 3) := by decide +kernel
theorem dX3_refusalOfSet_19 : decode cX3_refusalOfSet 19 = .ok (.ifCond .eq 7, 3) := by decide +kernel
theorem dX3_refusalOfSet_22 : decode cX3_refusalOfSet 22 = .ok (.getstatic 95, 3) := by decide +kernel
theorem dX3_refusalOfSet_25 : decode cX3_refusalOfSet 25 = .ok (.areturn, 1) := by decide +kernel
theorem dX3_refusalOfSet_26 : decode cX3_refusalOfSet 26 = .ok (.aload_n 0, 1) := by decide +kernel
theorem dX3_refusalOfSet_27 : decode cX3_refusalOfSet 27 = .ok (.getfield 11, 3) := by decide +kernel
theorem dX3_refusalOfSet_30 : decode cX3_refusalOfSet 30 = .ok (.iload_n 1, 1) := by decide +kernel
theorem dX3_refusalOfSet_31 : decode cX3_refusalOfSet 31 = .ok (.aaload, 1) := by decide +kernel
theorem dX3_refusalOfSet_32 : decode cX3_refusalOfSet 32 = .ok (.getfield 132, 3) := by decide +kernel
theorem dX3_refusalOfSet_35 : decode cX3_refusalOfSet 35 = .ok (.ifCond .eq 11, 3) := by decide +kernel
theorem dX3_refusalOfSet_38 : decode cX3_refusalOfSet 38 = .ok (.aload_n 0, 1) := by decide +kernel
theorem dX3_refusalOfSet_39 : decode cX3_refusalOfSet 39 = .ok (.iload_n 1, 1) := by decide +kernel
theorem dX3_refusalOfSet_40 : decode cX3_refusalOfSet 40 = .ok (.invokevirtual 129, 3) := by decide +kernel
theorem dX3_refusalOfSet_43 : decode cX3_refusalOfSet 43 = .ok (.ifCond .eq 9, 3) := by decide +kernel
theorem dX3_refusalOfSet_46 : decode cX3_refusalOfSet 46 = .ok (.getstatic 116, 3) := by decide +kernel
theorem dX3_refusalOfSet_49 : decode cX3_refusalOfSet 49 = .ok (.goto 6, 3) := by decide +kernel
theorem dX3_refusalOfSet_52 : decode cX3_refusalOfSet 52 = .ok (.getstatic 101, 3) := by decide +kernel
theorem dX3_refusalOfSet_55 : decode cX3_refusalOfSet 55 = .ok (.areturn, 1) := by decide +kernel
theorem dX3_carryOut_0 : decode cX3_carryOut 0 = .ok (.getstatic 70, 3) := by decide +kernel
theorem dX3_carryOut_3 : decode cX3_carryOut 3 = .ok (.aload_n 1, 1) := by decide +kernel
theorem dX3_carryOut_4 : decode cX3_carryOut 4 = .ok (.invokevirtual 75, 3) := by decide +kernel
theorem dX3_carryOut_7 : decode cX3_carryOut 7 = .ok (.iaload, 1) := by decide +kernel
theorem dX3_carryOut_8 : decode cX3_carryOut 8 = .ok (.tableswitch 133 1 7 #[44, 53, 66, 80, 105, 111, 118], 44) := by decide +kernel
theorem dX3_carryOut_52 : decode cX3_carryOut 52 = .ok (.aload_n 0, 1) := by decide +kernel
theorem dX3_carryOut_53 : decode cX3_carryOut 53 = .ok (.iload_n 2, 1) := by decide +kernel
theorem dX3_carryOut_54 : decode cX3_carryOut 54 = .ok (.iload_n 3, 1) := by decide +kernel
theorem dX3_carryOut_55 : decode cX3_carryOut 55 = .ok (.iload 4, 2) := by decide +kernel
theorem dX3_carryOut_57 : decode cX3_carryOut 57 = .ok (.invokevirtual 146, 3) := by decide +kernel
theorem dX3_carryOut_60 : decode cX3_carryOut 60 = .ok (.ireturn, 1) := by decide +kernel
theorem dX3_carryOut_61 : decode cX3_carryOut 61 = .ok (.aload_n 0, 1) := by decide +kernel
theorem dX3_carryOut_62 : decode cX3_carryOut 62 = .ok (.getfield 11, 3) := by decide +kernel
theorem dX3_carryOut_65 : decode cX3_carryOut 65 = .ok (.iload_n 2, 1) := by decide +kernel
theorem dX3_carryOut_66 : decode cX3_carryOut 66 = .ok (.aaload, 1) := by decide +kernel
theorem dX3_carryOut_67 : decode cX3_carryOut 67 = .ok (.iload_n 3, 1) := by decide +kernel
theorem dX3_carryOut_68 : decode cX3_carryOut 68 = .ok (.iload 4, 2) := by decide +kernel
theorem dX3_carryOut_70 : decode cX3_carryOut 70 = .ok (.invokevirtual 150, 3) := by decide +kernel
theorem dX3_carryOut_73 : decode cX3_carryOut 73 = .ok (.ireturn, 1) := by decide +kernel
theorem dX3_carryOut_74 : decode cX3_carryOut 74 = .ok (.aload_n 0, 1) := by decide +kernel
theorem dX3_carryOut_75 : decode cX3_carryOut 75 = .ok (.iload_n 2, 1) := by decide +kernel
theorem dX3_carryOut_76 : decode cX3_carryOut 76 = .ok (.invokevirtual 154, 3) := by decide +kernel
theorem dX3_carryOut_79 : decode cX3_carryOut 79 = .ok (.ifCond .eq 7, 3) := by decide +kernel
theorem dX3_carryOut_82 : decode cX3_carryOut 82 = .ok (.iconst 1, 1) := by decide +kernel
theorem dX3_carryOut_83 : decode cX3_carryOut 83 = .ok (.goto 4, 3) := by decide +kernel
theorem dX3_carryOut_86 : decode cX3_carryOut 86 = .ok (.iconst 0, 1) := by decide +kernel
theorem dX3_carryOut_87 : decode cX3_carryOut 87 = .ok (.ireturn, 1) := by decide +kernel
theorem dX3_carryOut_88 : decode cX3_carryOut 88 = .ok (.aload_n 0, 1) := by decide +kernel
theorem dX3_carryOut_89 : decode cX3_carryOut 89 = .ok (.getfield 11, 3) := by decide +kernel
theorem dX3_carryOut_92 : decode cX3_carryOut 92 = .ok (.iload_n 2, 1) := by decide +kernel
theorem dX3_carryOut_93 : decode cX3_carryOut 93 = .ok (.aaload, 1) := by decide +kernel
theorem dX3_carryOut_94 : decode cX3_carryOut 94 = .ok (.iconst 0, 1) := by decide +kernel
theorem dX3_carryOut_95 : decode cX3_carryOut 95 = .ok (.putfield 132, 3) := by decide +kernel
theorem dX3_carryOut_98 : decode cX3_carryOut 98 = .ok (.aload_n 0, 1) := by decide +kernel
theorem dX3_carryOut_99 : decode cX3_carryOut 99 = .ok (.dup, 1) := by decide +kernel
theorem dX3_carryOut_100 : decode cX3_carryOut 100 = .ok (.getfield 50, 3) := by decide +kernel
theorem dX3_carryOut_103 : decode cX3_carryOut 103 = .ok (.iconst 1, 1) := by decide +kernel
theorem dX3_carryOut_104 : decode cX3_carryOut 104 = .ok (.iadd, 1) := by decide +kernel
theorem dX3_carryOut_105 : decode cX3_carryOut 105 = .ok (.putfield 50, 3) := by decide +kernel
theorem dX3_carryOut_108 : decode cX3_carryOut 108 = .ok (.aload_n 0, 1) := by decide +kernel
theorem dX3_carryOut_109 : decode cX3_carryOut 109 = .ok (.invokevirtual 157, 3) := by decide +kernel
theorem dX3_carryOut_112 : decode cX3_carryOut 112 = .ok (.ireturn, 1) := by decide +kernel
theorem dX3_carryOut_113 : decode cX3_carryOut 113 = .ok (.aload_n 0, 1) := by decide +kernel
theorem dX3_carryOut_114 : decode cX3_carryOut 114 = .ok (.iload_n 2, 1) := by decide +kernel
theorem dX3_carryOut_115 : decode cX3_carryOut 115 = .ok (.invokevirtual 160, 3) := by decide +kernel
theorem dX3_carryOut_118 : decode cX3_carryOut 118 = .ok (.ireturn, 1) := by decide +kernel
theorem dX3_carryOut_119 : decode cX3_carryOut 119 = .ok (.aload_n 0, 1) := by decide +kernel
theorem dX3_carryOut_120 : decode cX3_carryOut 120 = .ok (.iload_n 2, 1) := by decide +kernel
theorem dX3_carryOut_121 : decode cX3_carryOut 121 = .ok (.iload_n 3, 1) := by decide +kernel
theorem dX3_carryOut_122 : decode cX3_carryOut 122 = .ok (.invokevirtual 164, 3) := by decide +kernel
theorem dX3_carryOut_125 : decode cX3_carryOut 125 = .ok (.ireturn, 1) := by decide +kernel
theorem dX3_carryOut_126 : decode cX3_carryOut 126 = .ok (.aload_n 0, 1) := by decide +kernel
theorem dX3_carryOut_127 : decode cX3_carryOut 127 = .ok (.getfield 11, 3) := by decide +kernel
theorem dX3_carryOut_130 : decode cX3_carryOut 130 = .ok (.iload_n 2, 1) := by decide +kernel
theorem dX3_carryOut_131 : decode cX3_carryOut 131 = .ok (.aaload, 1) := by decide +kernel
theorem dX3_carryOut_132 : decode cX3_carryOut 132 = .ok (.iload_n 3, 1) := by decide +kernel
theorem dX3_carryOut_133 : decode cX3_carryOut 133 = .ok (.iload 4, 2) := by decide +kernel
theorem dX3_carryOut_135 : decode cX3_carryOut 135 = .ok (.iload 5, 2) := by decide +kernel
theorem dX3_carryOut_137 : decode cX3_carryOut 137 = .ok (.invokevirtual 167, 3) := by decide +kernel
theorem dX3_carryOut_140 : decode cX3_carryOut 140 = .ok (.ireturn, 1) := by decide +kernel
theorem dX3_carryOut_141 : decode cX3_carryOut 141 = .ok (.aload_n 0, 1) := by decide +kernel
theorem dX3_carryOut_142 : decode cX3_carryOut 142 = .ok (.iload_n 2, 1) := by decide +kernel
theorem dX3_carryOut_143 : decode cX3_carryOut 143 = .ok (.invokevirtual 170, 3) := by decide +kernel
theorem dX3_carryOut_146 : decode cX3_carryOut 146 = .ok (.ireturn, 1) := by decide +kernel
theorem dX3_addLock_0 : decode cX3_addLock 0 = .ok (.aload_n 0, 1) := by decide +kernel
theorem dX3_addLock_1 : decode cX3_addLock 1 = .ok (.getfield 11, 3) := by decide +kernel
theorem dX3_addLock_4 : decode cX3_addLock 4 = .ok (.aload_n 0, 1) := by decide +kernel
theorem dX3_addLock_5 : decode cX3_addLock 5 = .ok (.getfield 31, 3) := by decide +kernel
theorem dX3_addLock_8 : decode cX3_addLock 8 = .ok (.aaload, 1) := by decide +kernel
theorem dX3_addLock_9 : decode cX3_addLock 9 = .ok (.iload_n 1, 1) := by decide +kernel
theorem dX3_addLock_10 : decode cX3_addLock 10 = .ok (.iload_n 2, 1) := by decide +kernel
theorem dX3_addLock_11 : decode cX3_addLock 11 = .ok (.iload_n 3, 1) := by decide +kernel
theorem dX3_addLock_12 : decode cX3_addLock 12 = .ok (.invokevirtual 167, 3) := by decide +kernel
theorem dX3_addLock_15 : decode cX3_addLock 15 = .ok (.pop, 1) := by decide +kernel
theorem dX3_addLock_16 : decode cX3_addLock 16 = .ok (.aload_n 0, 1) := by decide +kernel
theorem dX3_addLock_17 : decode cX3_addLock 17 = .ok (.dup, 1) := by decide +kernel
theorem dX3_addLock_18 : decode cX3_addLock 18 = .ok (.getfield 31, 3) := by decide +kernel
theorem dX3_addLock_21 : decode cX3_addLock 21 = .ok (.iconst 1, 1) := by decide +kernel
theorem dX3_addLock_22 : decode cX3_addLock 22 = .ok (.iadd, 1) := by decide +kernel
theorem dX3_addLock_23 : decode cX3_addLock 23 = .ok (.putfield 31, 3) := by decide +kernel
theorem dX3_addLock_26 : decode cX3_addLock 26 = .ok (.aload_n 0, 1) := by decide +kernel
theorem dX3_addLock_27 : decode cX3_addLock 27 = .ok (.getfield 31, 3) := by decide +kernel
theorem dX3_addLock_30 : decode cX3_addLock 30 = .ok (.iconst 1, 1) := by decide +kernel
theorem dX3_addLock_31 : decode cX3_addLock 31 = .ok (.isub, 1) := by decide +kernel
theorem dX3_addLock_32 : decode cX3_addLock 32 = .ok (.ireturn, 1) := by decide +kernel
theorem dX3_tryDoor_0 : decode cX3_tryDoor 0 = .ok (.aload_n 0, 1) := by decide +kernel
theorem dX3_tryDoor_1 : decode cX3_tryDoor 1 = .ok (.getfield 11, 3) := by decide +kernel
theorem dX3_tryDoor_4 : decode cX3_tryDoor 4 = .ok (.iload_n 1, 1) := by decide +kernel
theorem dX3_tryDoor_5 : decode cX3_tryDoor 5 = .ok (.aaload, 1) := by decide +kernel
theorem dX3_tryDoor_6 : decode cX3_tryDoor 6 = .ok (.invokevirtual 173, 3) := by decide +kernel
theorem dX3_tryDoor_9 : decode cX3_tryDoor 9 = .ok (.istore_n 2, 1) := by decide +kernel
theorem dX3_tryDoor_10 : decode cX3_tryDoor 10 = .ok (.aload_n 0, 1) := by decide +kernel
theorem dX3_tryDoor_11 : decode cX3_tryDoor 11 = .ok (.dup, 1) := by decide +kernel
theorem dX3_tryDoor_12 : decode cX3_tryDoor 12 = .ok (.getfield 41, 3) := by decide +kernel
theorem dX3_tryDoor_15 : decode cX3_tryDoor 15 = .ok (.iconst 1, 1) := by decide +kernel
theorem dX3_tryDoor_16 : decode cX3_tryDoor 16 = .ok (.iadd, 1) := by decide +kernel
theorem dX3_tryDoor_17 : decode cX3_tryDoor 17 = .ok (.putfield 41, 3) := by decide +kernel
theorem dX3_tryDoor_20 : decode cX3_tryDoor 20 = .ok (.iload_n 2, 1) := by decide +kernel
theorem dX3_tryDoor_21 : decode cX3_tryDoor 21 = .ok (.ifCond .eq 16, 3) := by decide +kernel
theorem dX3_tryDoor_24 : decode cX3_tryDoor 24 = .ok (.aload_n 0, 1) := by decide +kernel
theorem dX3_tryDoor_25 : decode cX3_tryDoor 25 = .ok (.dup, 1) := by decide +kernel
theorem dX3_tryDoor_26 : decode cX3_tryDoor 26 = .ok (.getfield 44, 3) := by decide +kernel
theorem dX3_tryDoor_29 : decode cX3_tryDoor 29 = .ok (.iconst 1, 1) := by decide +kernel
theorem dX3_tryDoor_30 : decode cX3_tryDoor 30 = .ok (.iadd, 1) := by decide +kernel
theorem dX3_tryDoor_31 : decode cX3_tryDoor 31 = .ok (.putfield 44, 3) := by decide +kernel
theorem dX3_tryDoor_34 : decode cX3_tryDoor 34 = .ok (.goto 25, 3) := by decide +kernel
theorem dX3_tryDoor_37 : decode cX3_tryDoor 37 = .ok (.aload_n 0, 1) := by decide +kernel
theorem dX3_tryDoor_38 : decode cX3_tryDoor 38 = .ok (.getfield 11, 3) := by decide +kernel
theorem dX3_tryDoor_41 : decode cX3_tryDoor 41 = .ok (.iload_n 1, 1) := by decide +kernel
theorem dX3_tryDoor_42 : decode cX3_tryDoor 42 = .ok (.aaload, 1) := by decide +kernel
theorem dX3_tryDoor_43 : decode cX3_tryDoor 43 = .ok (.getfield 132, 3) := by decide +kernel
theorem dX3_tryDoor_46 : decode cX3_tryDoor 46 = .ok (.ifCond .eq 13, 3) := by decide +kernel
theorem dX3_tryDoor_49 : decode cX3_tryDoor 49 = .ok (.aload_n 0, 1) := by decide +kernel
theorem dX3_tryDoor_50 : decode cX3_tryDoor 50 = .ok (.dup, 1) := by decide +kernel
theorem dX3_tryDoor_51 : decode cX3_tryDoor 51 = .ok (.getfield 47, 3) := by decide +kernel
theorem dX3_tryDoor_54 : decode cX3_tryDoor 54 = .ok (.iconst 1, 1) := by decide +kernel
theorem dX3_tryDoor_55 : decode cX3_tryDoor 55 = .ok (.iadd, 1) := by decide +kernel
theorem dX3_tryDoor_56 : decode cX3_tryDoor 56 = .ok (.putfield 47, 3) := by decide +kernel
theorem dX3_tryDoor_59 : decode cX3_tryDoor 59 = .ok (.bipush 9, 2) := by decide +kernel
theorem dX3_tryDoor_61 : decode cX3_tryDoor 61 = .ok (.istore_n 3, 1) := by decide +kernel
theorem dX3_tryDoor_62 : decode cX3_tryDoor 62 = .ok (.iload_n 3, 1) := by decide +kernel
theorem dX3_tryDoor_63 : decode cX3_tryDoor 63 = .ok (.ifCond .le 37, 3) := by decide +kernel
theorem dX3_tryDoor_66 : decode cX3_tryDoor 66 = .ok (.aload_n 0, 1) := by decide +kernel
theorem dX3_tryDoor_67 : decode cX3_tryDoor 67 = .ok (.getfield 24, 3) := by decide +kernel
theorem dX3_tryDoor_70 : decode cX3_tryDoor 70 = .ok (.iload_n 3, 1) := by decide +kernel
theorem dX3_tryDoor_71 : decode cX3_tryDoor 71 = .ok (.aload_n 0, 1) := by decide +kernel
theorem dX3_tryDoor_72 : decode cX3_tryDoor 72 = .ok (.getfield 24, 3) := by decide +kernel
theorem dX3_tryDoor_75 : decode cX3_tryDoor 75 = .ok (.iload_n 3, 1) := by decide +kernel
theorem dX3_tryDoor_76 : decode cX3_tryDoor 76 = .ok (.iconst 1, 1) := by decide +kernel
theorem dX3_tryDoor_77 : decode cX3_tryDoor 77 = .ok (.isub, 1) := by decide +kernel
theorem dX3_tryDoor_78 : decode cX3_tryDoor 78 = .ok (.iaload, 1) := by decide +kernel
theorem dX3_tryDoor_79 : decode cX3_tryDoor 79 = .ok (.iastore, 1) := by decide +kernel
theorem dX3_tryDoor_80 : decode cX3_tryDoor 80 = .ok (.aload_n 0, 1) := by decide +kernel
theorem dX3_tryDoor_81 : decode cX3_tryDoor 81 = .ok (.getfield 27, 3) := by decide +kernel
theorem dX3_tryDoor_84 : decode cX3_tryDoor 84 = .ok (.iload_n 3, 1) := by decide +kernel
theorem dX3_tryDoor_85 : decode cX3_tryDoor 85 = .ok (.aload_n 0, 1) := by decide +kernel
theorem dX3_tryDoor_86 : decode cX3_tryDoor 86 = .ok (.getfield 27, 3) := by decide +kernel
theorem dX3_tryDoor_89 : decode cX3_tryDoor 89 = .ok (.iload_n 3, 1) := by decide +kernel
theorem dX3_tryDoor_90 : decode cX3_tryDoor 90 = .ok (.iconst 1, 1) := by decide +kernel
theorem dX3_tryDoor_91 : decode cX3_tryDoor 91 = .ok (.isub, 1) := by decide +kernel
theorem dX3_tryDoor_92 : decode cX3_tryDoor 92 = .ok (.baload, 1) := by decide +kernel
theorem dX3_tryDoor_93 : decode cX3_tryDoor 93 = .ok (.bastore, 1) := by decide +kernel
theorem dX3_tryDoor_94 : decode cX3_tryDoor 94 = .ok (.iinc 3 (-1), 3) := by decide +kernel
theorem dX3_tryDoor_97 : decode cX3_tryDoor 97 = .ok (.goto (-35), 3) := by decide +kernel
theorem dX3_tryDoor_100 : decode cX3_tryDoor 100 = .ok (.aload_n 0, 1) := by decide +kernel
theorem dX3_tryDoor_101 : decode cX3_tryDoor 101 = .ok (.getfield 24, 3) := by decide +kernel
theorem dX3_tryDoor_104 : decode cX3_tryDoor 104 = .ok (.iconst 0, 1) := by decide +kernel
theorem dX3_tryDoor_105 : decode cX3_tryDoor 105 = .ok (.iload_n 1, 1) := by decide +kernel
theorem dX3_tryDoor_106 : decode cX3_tryDoor 106 = .ok (.iastore, 1) := by decide +kernel
theorem dX3_tryDoor_107 : decode cX3_tryDoor 107 = .ok (.aload_n 0, 1) := by decide +kernel
theorem dX3_tryDoor_108 : decode cX3_tryDoor 108 = .ok (.getfield 27, 3) := by decide +kernel
theorem dX3_tryDoor_111 : decode cX3_tryDoor 111 = .ok (.iconst 0, 1) := by decide +kernel
theorem dX3_tryDoor_112 : decode cX3_tryDoor 112 = .ok (.iload_n 2, 1) := by decide +kernel
theorem dX3_tryDoor_113 : decode cX3_tryDoor 113 = .ok (.bastore, 1) := by decide +kernel
theorem dX3_tryDoor_114 : decode cX3_tryDoor 114 = .ok (.iload_n 2, 1) := by decide +kernel
theorem dX3_tryDoor_115 : decode cX3_tryDoor 115 = .ok (.ireturn, 1) := by decide +kernel
theorem dX3_replaceDamp_0 : decode cX3_replaceDamp 0 = .ok (.aload_n 0, 1) := by decide +kernel
theorem dX3_replaceDamp_1 : decode cX3_replaceDamp 1 = .ok (.getfield 35, 3) := by decide +kernel
theorem dX3_replaceDamp_4 : decode cX3_replaceDamp 4 = .ok (.istore_n 2, 1) := by decide +kernel
theorem dX3_replaceDamp_5 : decode cX3_replaceDamp 5 = .ok (.aload_n 0, 1) := by decide +kernel
theorem dX3_replaceDamp_6 : decode cX3_replaceDamp 6 = .ok (.iload_n 1, 1) := by decide +kernel
theorem dX3_replaceDamp_7 : decode cX3_replaceDamp 7 = .ok (.putfield 35, 3) := by decide +kernel
theorem dX3_replaceDamp_10 : decode cX3_replaceDamp 10 = .ok (.iload_n 2, 1) := by decide +kernel
theorem dX3_replaceDamp_11 : decode cX3_replaceDamp 11 = .ok (.ireturn, 1) := by decide +kernel
theorem dX3_putIn_0 : decode cX3_putIn 0 = .ok (.aload_n 0, 1) := by decide +kernel
theorem dX3_putIn_1 : decode cX3_putIn 1 = .ok (.getfield 11, 3) := by decide +kernel
theorem dX3_putIn_4 : decode cX3_putIn 4 = .ok (.iload_n 1, 1) := by decide +kernel
theorem dX3_putIn_5 : decode cX3_putIn 5 = .ok (.aaload, 1) := by decide +kernel
theorem dX3_putIn_6 : decode cX3_putIn 6 = .ok (.getfield 132, 3) := by decide +kernel
theorem dX3_putIn_9 : decode cX3_putIn 9 = .ok (.ifCond .ne 13, 3) := by decide +kernel
theorem dX3_putIn_12 : decode cX3_putIn 12 = .ok (.aload_n 0, 1) := by decide +kernel
theorem dX3_putIn_13 : decode cX3_putIn 13 = .ok (.dup, 1) := by decide +kernel
theorem dX3_putIn_14 : decode cX3_putIn 14 = .ok (.getfield 53, 3) := by decide +kernel
theorem dX3_putIn_17 : decode cX3_putIn 17 = .ok (.iconst 1, 1) := by decide +kernel
theorem dX3_putIn_18 : decode cX3_putIn 18 = .ok (.iadd, 1) := by decide +kernel
theorem dX3_putIn_19 : decode cX3_putIn 19 = .ok (.putfield 53, 3) := by decide +kernel
theorem dX3_putIn_22 : decode cX3_putIn 22 = .ok (.aload_n 0, 1) := by decide +kernel
theorem dX3_putIn_23 : decode cX3_putIn 23 = .ok (.getfield 11, 3) := by decide +kernel
theorem dX3_putIn_26 : decode cX3_putIn 26 = .ok (.iload_n 1, 1) := by decide +kernel
theorem dX3_putIn_27 : decode cX3_putIn 27 = .ok (.aaload, 1) := by decide +kernel
theorem dX3_putIn_28 : decode cX3_putIn 28 = .ok (.iconst 1, 1) := by decide +kernel
theorem dX3_putIn_29 : decode cX3_putIn 29 = .ok (.putfield 132, 3) := by decide +kernel
theorem dX3_putIn_32 : decode cX3_putIn 32 = .ok (.aload_n 0, 1) := by decide +kernel
theorem dX3_putIn_33 : decode cX3_putIn 33 = .ok (.getfield 17, 3) := by decide +kernel
theorem dX3_putIn_36 : decode cX3_putIn 36 = .ok (.iload_n 2, 1) := by decide +kernel
theorem dX3_putIn_37 : decode cX3_putIn 37 = .ok (.iload_n 1, 1) := by decide +kernel
theorem dX3_putIn_38 : decode cX3_putIn 38 = .ok (.iastore, 1) := by decide +kernel
theorem dX3_putIn_39 : decode cX3_putIn 39 = .ok (.aload_n 0, 1) := by decide +kernel
theorem dX3_putIn_40 : decode cX3_putIn 40 = .ok (.getfield 21, 3) := by decide +kernel
theorem dX3_putIn_43 : decode cX3_putIn 43 = .ok (.iload_n 2, 1) := by decide +kernel
theorem dX3_putIn_44 : decode cX3_putIn 44 = .ok (.iconst 1, 1) := by decide +kernel
theorem dX3_putIn_45 : decode cX3_putIn 45 = .ok (.aload_n 0, 1) := by decide +kernel
theorem dX3_putIn_46 : decode cX3_putIn 46 = .ok (.getfield 11, 3) := by decide +kernel
theorem dX3_putIn_49 : decode cX3_putIn 49 = .ok (.iload_n 1, 1) := by decide +kernel
theorem dX3_putIn_50 : decode cX3_putIn 50 = .ok (.aaload, 1) := by decide +kernel
theorem dX3_putIn_51 : decode cX3_putIn 51 = .ok (.getfield 176, 3) := by decide +kernel
theorem dX3_putIn_54 : decode cX3_putIn 54 = .ok (.iconst 4, 1) := by decide +kernel
theorem dX3_putIn_55 : decode cX3_putIn 55 = .ok (.idiv, 1) := by decide +kernel
theorem dX3_putIn_56 : decode cX3_putIn 56 = .ok (.iadd, 1) := by decide +kernel
theorem dX3_putIn_57 : decode cX3_putIn 57 = .ok (.iastore, 1) := by decide +kernel
theorem dX3_putIn_58 : decode cX3_putIn 58 = .ok (.aload_n 0, 1) := by decide +kernel
theorem dX3_putIn_59 : decode cX3_putIn 59 = .ok (.getfield 21, 3) := by decide +kernel
theorem dX3_putIn_62 : decode cX3_putIn 62 = .ok (.iload_n 2, 1) := by decide +kernel
theorem dX3_putIn_63 : decode cX3_putIn 63 = .ok (.iaload, 1) := by decide +kernel
theorem dX3_putIn_64 : decode cX3_putIn 64 = .ok (.ireturn, 1) := by decide +kernel
theorem dX3_letHoursPass_0 : decode cX3_letHoursPass 0 = .ok (.aload_n 0, 1) := by decide +kernel
theorem dX3_letHoursPass_1 : decode cX3_letHoursPass 1 = .ok (.getfield 56, 3) := by decide +kernel
theorem dX3_letHoursPass_4 : decode cX3_letHoursPass 4 = .ok (.istore_n 2, 1) := by decide +kernel
theorem dX3_letHoursPass_5 : decode cX3_letHoursPass 5 = .ok (.iconst 0, 1) := by decide +kernel
theorem dX3_letHoursPass_6 : decode cX3_letHoursPass 6 = .ok (.istore_n 3, 1) := by decide +kernel
theorem dX3_letHoursPass_7 : decode cX3_letHoursPass 7 = .ok (.iload_n 3, 1) := by decide +kernel
theorem dX3_letHoursPass_8 : decode cX3_letHoursPass 8 = .ok (.iload_n 1, 1) := by decide +kernel
theorem dX3_letHoursPass_9 : decode cX3_letHoursPass 9 = .ok (.if_icmp .ge 13, 3) := by decide +kernel
theorem dX3_letHoursPass_12 : decode cX3_letHoursPass 12 = .ok (.aload_n 0, 1) := by decide +kernel
theorem dX3_letHoursPass_13 : decode cX3_letHoursPass 13 = .ok (.invokevirtual 179, 3) := by decide +kernel
theorem dX3_letHoursPass_16 : decode cX3_letHoursPass 16 = .ok (.iinc 3 1, 3) := by decide +kernel
theorem dX3_letHoursPass_19 : decode cX3_letHoursPass 19 = .ok (.goto (-12), 3) := by decide +kernel
theorem dX3_letHoursPass_22 : decode cX3_letHoursPass 22 = .ok (.aload_n 0, 1) := by decide +kernel
theorem dX3_letHoursPass_23 : decode cX3_letHoursPass 23 = .ok (.getfield 56, 3) := by decide +kernel
theorem dX3_letHoursPass_26 : decode cX3_letHoursPass 26 = .ok (.iload_n 2, 1) := by decide +kernel
theorem dX3_letHoursPass_27 : decode cX3_letHoursPass 27 = .ok (.isub, 1) := by decide +kernel
theorem dX3_letHoursPass_28 : decode cX3_letHoursPass 28 = .ok (.ireturn, 1) := by decide +kernel
theorem dX3_letHourPass_0 : decode cX3_letHourPass 0 = .ok (.aload_n 0, 1) := by decide +kernel
theorem dX3_letHourPass_1 : decode cX3_letHourPass 1 = .ok (.dup, 1) := by decide +kernel
theorem dX3_letHourPass_2 : decode cX3_letHourPass 2 = .ok (.getfield 38, 3) := by decide +kernel
theorem dX3_letHourPass_5 : decode cX3_letHourPass 5 = .ok (.iconst 1, 1) := by decide +kernel
theorem dX3_letHourPass_6 : decode cX3_letHourPass 6 = .ok (.iadd, 1) := by decide +kernel
theorem dX3_letHourPass_7 : decode cX3_letHourPass 7 = .ok (.putfield 38, 3) := by decide +kernel
theorem dX3_letHourPass_10 : decode cX3_letHourPass 10 = .ok (.aload_n 0, 1) := by decide +kernel
theorem dX3_letHourPass_11 : decode cX3_letHourPass 11 = .ok (.getfield 38, 3) := by decide +kernel
theorem dX3_letHourPass_14 : decode cX3_letHourPass 14 = .ok (.bipush 10, 2) := by decide +kernel
theorem dX3_letHourPass_16 : decode cX3_letHourPass 16 = .ok (.aload_n 0, 1) := by decide +kernel
theorem dX3_letHourPass_17 : decode cX3_letHourPass 17 = .ok (.getfield 35, 3) := by decide +kernel
theorem dX3_letHourPass_20 : decode cX3_letHourPass 20 = .ok (.isub, 1) := by decide +kernel
theorem dX3_letHourPass_21 : decode cX3_letHourPass 21 = .ok (.irem, 1) := by decide +kernel
theorem dX3_letHourPass_22 : decode cX3_letHourPass 22 = .ok (.ifCond .ne 13, 3) := by decide +kernel
theorem dX3_letHourPass_25 : decode cX3_letHourPass 25 = .ok (.aload_n 0, 1) := by decide +kernel
theorem dX3_letHourPass_26 : decode cX3_letHourPass 26 = .ok (.aload_n 0, 1) := by decide +kernel
theorem dX3_letHourPass_27 : decode cX3_letHourPass 27 = .ok (.getfield 38, 3) := by decide +kernel
theorem dX3_letHourPass_30 : decode cX3_letHourPass 30 = .ok (.iconst 3, 1) := by decide +kernel
theorem dX3_letHourPass_31 : decode cX3_letHourPass 31 = .ok (.irem, 1) := by decide +kernel
theorem dX3_letHourPass_32 : decode cX3_letHourPass 32 = .ok (.invokevirtual 182, 3) := by decide +kernel
theorem dX3_letHourPass_35 : decode cX3_letHourPass 35 = .ok (.iconst 0, 1) := by decide +kernel
theorem dX3_letHourPass_36 : decode cX3_letHourPass 36 = .ok (.istore_n 1, 1) := by decide +kernel
theorem dX3_letHourPass_37 : decode cX3_letHourPass 37 = .ok (.iload_n 1, 1) := by decide +kernel
theorem dX3_letHourPass_38 : decode cX3_letHourPass 38 = .ok (.iconst 2, 1) := by decide +kernel
theorem dX3_letHourPass_39 : decode cX3_letHourPass 39 = .ok (.if_icmp .ge 14, 3) := by decide +kernel
theorem dX3_letHourPass_42 : decode cX3_letHourPass 42 = .ok (.aload_n 0, 1) := by decide +kernel
theorem dX3_letHourPass_43 : decode cX3_letHourPass 43 = .ok (.iload_n 1, 1) := by decide +kernel
theorem dX3_letHourPass_44 : decode cX3_letHourPass 44 = .ok (.invokevirtual 186, 3) := by decide +kernel
theorem dX3_letHourPass_47 : decode cX3_letHourPass 47 = .ok (.iinc 1 1, 3) := by decide +kernel
theorem dX3_letHourPass_50 : decode cX3_letHourPass 50 = .ok (.goto (-13), 3) := by decide +kernel
theorem dX3_letHourPass_53 : decode cX3_letHourPass 53 = .ok (.return_, 1) := by decide +kernel
theorem dX3_driftShutLocks_0 : decode cX3_driftShutLocks 0 = .ok (.iconst 0, 1) := by decide +kernel
theorem dX3_driftShutLocks_1 : decode cX3_driftShutLocks 1 = .ok (.istore_n 2, 1) := by decide +kernel
theorem dX3_driftShutLocks_2 : decode cX3_driftShutLocks 2 = .ok (.iload_n 2, 1) := by decide +kernel
theorem dX3_driftShutLocks_3 : decode cX3_driftShutLocks 3 = .ok (.aload_n 0, 1) := by decide +kernel
theorem dX3_driftShutLocks_4 : decode cX3_driftShutLocks 4 = .ok (.getfield 31, 3) := by decide +kernel
theorem dX3_driftShutLocks_7 : decode cX3_driftShutLocks 7 = .ok (.if_icmp .ge 33, 3) := by decide +kernel
theorem dX3_driftShutLocks_10 : decode cX3_driftShutLocks 10 = .ok (.aload_n 0, 1) := by decide +kernel
theorem dX3_driftShutLocks_11 : decode cX3_driftShutLocks 11 = .ok (.getfield 11, 3) := by decide +kernel
theorem dX3_driftShutLocks_14 : decode cX3_driftShutLocks 14 = .ok (.iload_n 2, 1) := by decide +kernel
theorem dX3_driftShutLocks_15 : decode cX3_driftShutLocks 15 = .ok (.aaload, 1) := by decide +kernel
theorem dX3_driftShutLocks_16 : decode cX3_driftShutLocks 16 = .ok (.getfield 132, 3) := by decide +kernel
theorem dX3_driftShutLocks_19 : decode cX3_driftShutLocks 19 = .ok (.ifCond .ne 15, 3) := by decide +kernel
theorem dX3_driftShutLocks_22 : decode cX3_driftShutLocks 22 = .ok (.aload_n 0, 1) := by decide +kernel
theorem dX3_driftShutLocks_23 : decode cX3_driftShutLocks 23 = .ok (.getfield 11, 3) := by decide +kernel
theorem dX3_driftShutLocks_26 : decode cX3_driftShutLocks 26 = .ok (.iload_n 2, 1) := by decide +kernel
theorem dX3_driftShutLocks_27 : decode cX3_driftShutLocks 27 = .ok (.aaload, 1) := by decide +kernel
theorem dX3_driftShutLocks_28 : decode cX3_driftShutLocks 28 = .ok (.iload_n 1, 1) := by decide +kernel
theorem dX3_driftShutLocks_29 : decode cX3_driftShutLocks 29 = .ok (.iconst 1, 1) := by decide +kernel
theorem dX3_driftShutLocks_30 : decode cX3_driftShutLocks 30 = .ok (.invokevirtual 150, 3) := by decide +kernel
theorem dX3_driftShutLocks_33 : decode cX3_driftShutLocks 33 = .ok (.pop, 1) := by decide +kernel
theorem dX3_driftShutLocks_34 : decode cX3_driftShutLocks 34 = .ok (.iinc 2 1, 3) := by decide +kernel
theorem dX3_driftShutLocks_37 : decode cX3_driftShutLocks 37 = .ok (.goto (-35), 3) := by decide +kernel
theorem dX3_driftShutLocks_40 : decode cX3_driftShutLocks 40 = .ok (.return_, 1) := by decide +kernel
theorem dX3_bakeOn_0 : decode cX3_bakeOn 0 = .ok (.aload_n 0, 1) := by decide +kernel
theorem dX3_bakeOn_1 : decode cX3_bakeOn 1 = .ok (.getfield 17, 3) := by decide +kernel
theorem dX3_bakeOn_4 : decode cX3_bakeOn 4 = .ok (.iload_n 1, 1) := by decide +kernel
theorem dX3_bakeOn_5 : decode cX3_bakeOn 5 = .ok (.iaload, 1) := by decide +kernel
theorem dX3_bakeOn_6 : decode cX3_bakeOn 6 = .ok (.istore_n 2, 1) := by decide +kernel
theorem dX3_bakeOn_7 : decode cX3_bakeOn 7 = .ok (.iload_n 2, 1) := by decide +kernel
theorem dX3_bakeOn_8 : decode cX3_bakeOn 8 = .ok (.iconst (-1), 1) := by decide +kernel
theorem dX3_bakeOn_9 : decode cX3_bakeOn 9 = .ok (.if_icmp .ne 4, 3) := by decide +kernel
theorem dX3_bakeOn_12 : decode cX3_bakeOn 12 = .ok (.return_, 1) := by decide +kernel
theorem dX3_bakeOn_13 : decode cX3_bakeOn 13 = .ok (.aload_n 0, 1) := by decide +kernel
theorem dX3_bakeOn_14 : decode cX3_bakeOn 14 = .ok (.getfield 21, 3) := by decide +kernel
theorem dX3_bakeOn_17 : decode cX3_bakeOn 17 = .ok (.iload_n 1, 1) := by decide +kernel
theorem dX3_bakeOn_18 : decode cX3_bakeOn 18 = .ok (.dup2, 1) := by decide +kernel
theorem dX3_bakeOn_19 : decode cX3_bakeOn 19 = .ok (.iaload, 1) := by decide +kernel
theorem dX3_bakeOn_20 : decode cX3_bakeOn 20 = .ok (.iconst 1, 1) := by decide +kernel
theorem dX3_bakeOn_21 : decode cX3_bakeOn 21 = .ok (.isub, 1) := by decide +kernel
theorem dX3_bakeOn_22 : decode cX3_bakeOn 22 = .ok (.iastore, 1) := by decide +kernel
theorem dX3_bakeOn_23 : decode cX3_bakeOn 23 = .ok (.aload_n 0, 1) := by decide +kernel
theorem dX3_bakeOn_24 : decode cX3_bakeOn 24 = .ok (.getfield 21, 3) := by decide +kernel
theorem dX3_bakeOn_27 : decode cX3_bakeOn 27 = .ok (.iload_n 1, 1) := by decide +kernel
theorem dX3_bakeOn_28 : decode cX3_bakeOn 28 = .ok (.iaload, 1) := by decide +kernel
theorem dX3_bakeOn_29 : decode cX3_bakeOn 29 = .ok (.ifCond .ne 29, 3) := by decide +kernel
theorem dX3_bakeOn_32 : decode cX3_bakeOn 32 = .ok (.aload_n 0, 1) := by decide +kernel
theorem dX3_bakeOn_33 : decode cX3_bakeOn 33 = .ok (.getfield 11, 3) := by decide +kernel
theorem dX3_bakeOn_36 : decode cX3_bakeOn 36 = .ok (.iload_n 2, 1) := by decide +kernel
theorem dX3_bakeOn_37 : decode cX3_bakeOn 37 = .ok (.aaload, 1) := by decide +kernel
theorem dX3_bakeOn_38 : decode cX3_bakeOn 38 = .ok (.invokevirtual 189, 3) := by decide +kernel
theorem dX3_bakeOn_41 : decode cX3_bakeOn 41 = .ok (.aload_n 0, 1) := by decide +kernel
theorem dX3_bakeOn_42 : decode cX3_bakeOn 42 = .ok (.getfield 17, 3) := by decide +kernel
theorem dX3_bakeOn_45 : decode cX3_bakeOn 45 = .ok (.iload_n 1, 1) := by decide +kernel
theorem dX3_bakeOn_46 : decode cX3_bakeOn 46 = .ok (.iconst (-1), 1) := by decide +kernel
theorem dX3_bakeOn_47 : decode cX3_bakeOn 47 = .ok (.iastore, 1) := by decide +kernel
theorem dX3_bakeOn_48 : decode cX3_bakeOn 48 = .ok (.aload_n 0, 1) := by decide +kernel
theorem dX3_bakeOn_49 : decode cX3_bakeOn 49 = .ok (.dup, 1) := by decide +kernel
theorem dX3_bakeOn_50 : decode cX3_bakeOn 50 = .ok (.getfield 56, 3) := by decide +kernel
theorem dX3_bakeOn_53 : decode cX3_bakeOn 53 = .ok (.iconst 1, 1) := by decide +kernel
theorem dX3_bakeOn_54 : decode cX3_bakeOn 54 = .ok (.iadd, 1) := by decide +kernel
theorem dX3_bakeOn_55 : decode cX3_bakeOn 55 = .ok (.putfield 56, 3) := by decide +kernel
theorem dX3_bakeOn_58 : decode cX3_bakeOn 58 = .ok (.return_, 1) := by decide +kernel
theorem dX3_countRemembered_0 : decode cX3_countRemembered 0 = .ok (.aload_n 0, 1) := by decide +kernel
theorem dX3_countRemembered_1 : decode cX3_countRemembered 1 = .ok (.getfield 41, 3) := by decide +kernel
theorem dX3_countRemembered_4 : decode cX3_countRemembered 4 = .ok (.bipush 10, 2) := by decide +kernel
theorem dX3_countRemembered_6 : decode cX3_countRemembered 6 = .ok (.invokestatic 192, 3) := by decide +kernel
theorem dX3_countRemembered_9 : decode cX3_countRemembered 9 = .ok (.ireturn, 1) := by decide +kernel
theorem dX3_countShut_0 : decode cX3_countShut 0 = .ok (.iconst 0, 1) := by decide +kernel
theorem dX3_countShut_1 : decode cX3_countShut 1 = .ok (.istore_n 1, 1) := by decide +kernel
theorem dX3_countShut_2 : decode cX3_countShut 2 = .ok (.iconst 0, 1) := by decide +kernel
theorem dX3_countShut_3 : decode cX3_countShut 3 = .ok (.istore_n 2, 1) := by decide +kernel
theorem dX3_countShut_4 : decode cX3_countShut 4 = .ok (.iload_n 2, 1) := by decide +kernel
theorem dX3_countShut_5 : decode cX3_countShut 5 = .ok (.aload_n 0, 1) := by decide +kernel
theorem dX3_countShut_6 : decode cX3_countShut 6 = .ok (.getfield 31, 3) := by decide +kernel
theorem dX3_countShut_9 : decode cX3_countShut 9 = .ok (.if_icmp .ge 24, 3) := by decide +kernel
theorem dX3_countShut_12 : decode cX3_countShut 12 = .ok (.aload_n 0, 1) := by decide +kernel
theorem dX3_countShut_13 : decode cX3_countShut 13 = .ok (.getfield 11, 3) := by decide +kernel
theorem dX3_countShut_16 : decode cX3_countShut 16 = .ok (.iload_n 2, 1) := by decide +kernel
theorem dX3_countShut_17 : decode cX3_countShut 17 = .ok (.aaload, 1) := by decide +kernel
theorem dX3_countShut_18 : decode cX3_countShut 18 = .ok (.getfield 132, 3) := by decide +kernel
theorem dX3_countShut_21 : decode cX3_countShut 21 = .ok (.ifCond .ne 6, 3) := by decide +kernel
theorem dX3_countShut_24 : decode cX3_countShut 24 = .ok (.iinc 1 1, 3) := by decide +kernel
theorem dX3_countShut_27 : decode cX3_countShut 27 = .ok (.iinc 2 1, 3) := by decide +kernel
theorem dX3_countShut_30 : decode cX3_countShut 30 = .ok (.goto (-26), 3) := by decide +kernel
theorem dX3_countShut_33 : decode cX3_countShut 33 = .ok (.iload_n 1, 1) := by decide +kernel
theorem dX3_countShut_34 : decode cX3_countShut 34 = .ok (.ireturn, 1) := by decide +kernel
theorem dX3_countShutByAccounts_0 : decode cX3_countShutByAccounts 0 = .ok (.aload_n 0, 1) := by decide +kernel
theorem dX3_countShutByAccounts_1 : decode cX3_countShutByAccounts 1 = .ok (.getfield 31, 3) := by decide +kernel
theorem dX3_countShutByAccounts_4 : decode cX3_countShutByAccounts 4 = .ok (.aload_n 0, 1) := by decide +kernel
theorem dX3_countShutByAccounts_5 : decode cX3_countShutByAccounts 5 = .ok (.getfield 56, 3) := by decide +kernel
theorem dX3_countShutByAccounts_8 : decode cX3_countShutByAccounts 8 = .ok (.iadd, 1) := by decide +kernel
theorem dX3_countShutByAccounts_9 : decode cX3_countShutByAccounts 9 = .ok (.aload_n 0, 1) := by decide +kernel
theorem dX3_countShutByAccounts_10 : decode cX3_countShutByAccounts 10 = .ok (.getfield 50, 3) := by decide +kernel
theorem dX3_countShutByAccounts_13 : decode cX3_countShutByAccounts 13 = .ok (.iadd, 1) := by decide +kernel
theorem dX3_countShutByAccounts_14 : decode cX3_countShutByAccounts 14 = .ok (.aload_n 0, 1) := by decide +kernel
theorem dX3_countShutByAccounts_15 : decode cX3_countShutByAccounts 15 = .ok (.getfield 44, 3) := by decide +kernel
theorem dX3_countShutByAccounts_18 : decode cX3_countShutByAccounts 18 = .ok (.isub, 1) := by decide +kernel
theorem dX3_countShutByAccounts_19 : decode cX3_countShutByAccounts 19 = .ok (.aload_n 0, 1) := by decide +kernel
theorem dX3_countShutByAccounts_20 : decode cX3_countShutByAccounts 20 = .ok (.getfield 47, 3) := by decide +kernel
theorem dX3_countShutByAccounts_23 : decode cX3_countShutByAccounts 23 = .ok (.isub, 1) := by decide +kernel
theorem dX3_countShutByAccounts_24 : decode cX3_countShutByAccounts 24 = .ok (.aload_n 0, 1) := by decide +kernel
theorem dX3_countShutByAccounts_25 : decode cX3_countShutByAccounts 25 = .ok (.getfield 53, 3) := by decide +kernel
theorem dX3_countShutByAccounts_28 : decode cX3_countShutByAccounts 28 = .ok (.isub, 1) := by decide +kernel
theorem dX3_countShutByAccounts_29 : decode cX3_countShutByAccounts 29 = .ok (.ireturn, 1) := by decide +kernel
theorem dX3_rankByCrumbs_0 : decode cX3_rankByCrumbs 0 = .ok (.iconst 0, 1) := by decide +kernel
theorem dX3_rankByCrumbs_1 : decode cX3_rankByCrumbs 1 = .ok (.istore_n 2, 1) := by decide +kernel
theorem dX3_rankByCrumbs_2 : decode cX3_rankByCrumbs 2 = .ok (.iconst 0, 1) := by decide +kernel
theorem dX3_rankByCrumbs_3 : decode cX3_rankByCrumbs 3 = .ok (.istore_n 3, 1) := by decide +kernel
theorem dX3_rankByCrumbs_4 : decode cX3_rankByCrumbs 4 = .ok (.iload_n 3, 1) := by decide +kernel
theorem dX3_rankByCrumbs_5 : decode cX3_rankByCrumbs 5 = .ok (.aload_n 0, 1) := by decide +kernel
theorem dX3_rankByCrumbs_6 : decode cX3_rankByCrumbs 6 = .ok (.getfield 31, 3) := by decide +kernel
theorem dX3_rankByCrumbs_9 : decode cX3_rankByCrumbs 9 = .ok (.if_icmp .ge 26, 3) := by decide +kernel
theorem dX3_rankByCrumbs_12 : decode cX3_rankByCrumbs 12 = .ok (.iload_n 3, 1) := by decide +kernel
theorem dX3_rankByCrumbs_13 : decode cX3_rankByCrumbs 13 = .ok (.iload_n 1, 1) := by decide +kernel
theorem dX3_rankByCrumbs_14 : decode cX3_rankByCrumbs 14 = .ok (.if_icmp .eq 15, 3) := by decide +kernel
theorem dX3_rankByCrumbs_17 : decode cX3_rankByCrumbs 17 = .ok (.aload_n 0, 1) := by decide +kernel
theorem dX3_rankByCrumbs_18 : decode cX3_rankByCrumbs 18 = .ok (.iload_n 3, 1) := by decide +kernel
theorem dX3_rankByCrumbs_19 : decode cX3_rankByCrumbs 19 = .ok (.iload_n 1, 1) := by decide +kernel
theorem dX3_rankByCrumbs_20 : decode cX3_rankByCrumbs 20 = .ok (.invokevirtual 197, 3) := by decide +kernel
theorem dX3_rankByCrumbs_23 : decode cX3_rankByCrumbs 23 = .ok (.ifCond .eq 6, 3) := by decide +kernel
theorem dX3_rankByCrumbs_26 : decode cX3_rankByCrumbs 26 = .ok (.iinc 2 1, 3) := by decide +kernel
theorem dX3_rankByCrumbs_29 : decode cX3_rankByCrumbs 29 = .ok (.iinc 3 1, 3) := by decide +kernel
theorem dX3_rankByCrumbs_32 : decode cX3_rankByCrumbs 32 = .ok (.goto (-28), 3) := by decide +kernel
theorem dX3_rankByCrumbs_35 : decode cX3_rankByCrumbs 35 = .ok (.iload_n 2, 1) := by decide +kernel
theorem dX3_rankByCrumbs_36 : decode cX3_rankByCrumbs 36 = .ok (.ireturn, 1) := by decide +kernel
theorem dX3_comesBefore_0 : decode cX3_comesBefore 0 = .ok (.aload_n 0, 1) := by decide +kernel
theorem dX3_comesBefore_1 : decode cX3_comesBefore 1 = .ok (.getfield 11, 3) := by decide +kernel
theorem dX3_comesBefore_4 : decode cX3_comesBefore 4 = .ok (.iload_n 1, 1) := by decide +kernel
theorem dX3_comesBefore_5 : decode cX3_comesBefore 5 = .ok (.aaload, 1) := by decide +kernel
theorem dX3_comesBefore_6 : decode cX3_comesBefore 6 = .ok (.getfield 176, 3) := by decide +kernel
theorem dX3_comesBefore_9 : decode cX3_comesBefore 9 = .ok (.aload_n 0, 1) := by decide +kernel
theorem dX3_comesBefore_10 : decode cX3_comesBefore 10 = .ok (.getfield 11, 3) := by decide +kernel
theorem dX3_comesBefore_13 : decode cX3_comesBefore 13 = .ok (.iload_n 2, 1) := by decide +kernel
theorem dX3_comesBefore_14 : decode cX3_comesBefore 14 = .ok (.aaload, 1) := by decide +kernel
theorem dX3_comesBefore_15 : decode cX3_comesBefore 15 = .ok (.getfield 176, 3) := by decide +kernel
theorem dX3_comesBefore_18 : decode cX3_comesBefore 18 = .ok (.if_icmp .eq 30, 3) := by decide +kernel
theorem dX3_comesBefore_21 : decode cX3_comesBefore 21 = .ok (.aload_n 0, 1) := by decide +kernel
theorem dX3_comesBefore_22 : decode cX3_comesBefore 22 = .ok (.getfield 11, 3) := by decide +kernel
theorem dX3_comesBefore_25 : decode cX3_comesBefore 25 = .ok (.iload_n 1, 1) := by decide +kernel
theorem dX3_comesBefore_26 : decode cX3_comesBefore 26 = .ok (.aaload, 1) := by decide +kernel
theorem dX3_comesBefore_27 : decode cX3_comesBefore 27 = .ok (.getfield 176, 3) := by decide +kernel
theorem dX3_comesBefore_30 : decode cX3_comesBefore 30 = .ok (.aload_n 0, 1) := by decide +kernel
theorem dX3_comesBefore_31 : decode cX3_comesBefore 31 = .ok (.getfield 11, 3) := by decide +kernel
theorem dX3_comesBefore_34 : decode cX3_comesBefore 34 = .ok (.iload_n 2, 1) := by decide +kernel
theorem dX3_comesBefore_35 : decode cX3_comesBefore 35 = .ok (.aaload, 1) := by decide +kernel
theorem dX3_comesBefore_36 : decode cX3_comesBefore 36 = .ok (.getfield 176, 3) := by decide +kernel
theorem dX3_comesBefore_39 : decode cX3_comesBefore 39 = .ok (.if_icmp .le 7, 3) := by decide +kernel
theorem dX3_comesBefore_42 : decode cX3_comesBefore 42 = .ok (.iconst 1, 1) := by decide +kernel
theorem dX3_comesBefore_43 : decode cX3_comesBefore 43 = .ok (.goto 4, 3) := by decide +kernel
theorem dX3_comesBefore_46 : decode cX3_comesBefore 46 = .ok (.iconst 0, 1) := by decide +kernel
theorem dX3_comesBefore_47 : decode cX3_comesBefore 47 = .ok (.ireturn, 1) := by decide +kernel
theorem dX3_comesBefore_48 : decode cX3_comesBefore 48 = .ok (.aload_n 0, 1) := by decide +kernel
theorem dX3_comesBefore_49 : decode cX3_comesBefore 49 = .ok (.getfield 11, 3) := by decide +kernel
theorem dX3_comesBefore_52 : decode cX3_comesBefore 52 = .ok (.iload_n 1, 1) := by decide +kernel
theorem dX3_comesBefore_53 : decode cX3_comesBefore 53 = .ok (.aaload, 1) := by decide +kernel
theorem dX3_comesBefore_54 : decode cX3_comesBefore 54 = .ok (.invokevirtual 201, 3) := by decide +kernel
theorem dX3_comesBefore_57 : decode cX3_comesBefore 57 = .ok (.istore_n 3, 1) := by decide +kernel
theorem dX3_comesBefore_58 : decode cX3_comesBefore 58 = .ok (.aload_n 0, 1) := by decide +kernel
theorem dX3_comesBefore_59 : decode cX3_comesBefore 59 = .ok (.getfield 11, 3) := by decide +kernel
theorem dX3_comesBefore_62 : decode cX3_comesBefore 62 = .ok (.iload_n 2, 1) := by decide +kernel
theorem dX3_comesBefore_63 : decode cX3_comesBefore 63 = .ok (.aaload, 1) := by decide +kernel
theorem dX3_comesBefore_64 : decode cX3_comesBefore 64 = .ok (.invokevirtual 201, 3) := by decide +kernel
theorem dX3_comesBefore_67 : decode cX3_comesBefore 67 = .ok (.istore 4, 2) := by decide +kernel
theorem dX3_comesBefore_69 : decode cX3_comesBefore 69 = .ok (.iload_n 3, 1) := by decide +kernel
theorem dX3_comesBefore_70 : decode cX3_comesBefore 70 = .ok (.iload 4, 2) := by decide +kernel
theorem dX3_comesBefore_72 : decode cX3_comesBefore 72 = .ok (.if_icmp .eq 17, 3) := by decide +kernel
theorem dX3_comesBefore_75 : decode cX3_comesBefore 75 = .ok (.iload_n 3, 1) := by decide +kernel
theorem dX3_comesBefore_76 : decode cX3_comesBefore 76 = .ok (.iload 4, 2) := by decide +kernel
theorem dX3_comesBefore_78 : decode cX3_comesBefore 78 = .ok (.if_icmp .ge 7, 3) := by decide +kernel
theorem dX3_comesBefore_81 : decode cX3_comesBefore 81 = .ok (.iconst 1, 1) := by decide +kernel
theorem dX3_comesBefore_82 : decode cX3_comesBefore 82 = .ok (.goto 17, 3) := by decide +kernel
theorem dX3_comesBefore_85 : decode cX3_comesBefore 85 = .ok (.iconst 0, 1) := by decide +kernel
theorem dX3_comesBefore_86 : decode cX3_comesBefore 86 = .ok (.goto 13, 3) := by decide +kernel
theorem dX3_comesBefore_89 : decode cX3_comesBefore 89 = .ok (.iload_n 1, 1) := by decide +kernel
theorem dX3_comesBefore_90 : decode cX3_comesBefore 90 = .ok (.iload_n 2, 1) := by decide +kernel
theorem dX3_comesBefore_91 : decode cX3_comesBefore 91 = .ok (.if_icmp .ge 7, 3) := by decide +kernel
theorem dX3_comesBefore_94 : decode cX3_comesBefore 94 = .ok (.iconst 1, 1) := by decide +kernel
theorem dX3_comesBefore_95 : decode cX3_comesBefore 95 = .ok (.goto 4, 3) := by decide +kernel
theorem dX3_comesBefore_98 : decode cX3_comesBefore 98 = .ok (.iconst 0, 1) := by decide +kernel
theorem dX3_comesBefore_99 : decode cX3_comesBefore 99 = .ok (.ireturn, 1) := by decide +kernel
theorem dX4_init_0 : decode cX4_init 0 = .ok (.aload_n 0, 1) := by decide +kernel
theorem dX4_init_1 : decode cX4_init 1 = .ok (.invokespecial 3, 3) := by decide +kernel
theorem dX4_init_4 : decode cX4_init 4 = .ok (.aload_n 0, 1) := by decide +kernel
theorem dX4_init_5 : decode cX4_init 5 = .ok (.iconst 3, 1) := by decide +kernel
theorem dX4_init_6 : decode cX4_init 6 = .ok (.newarray .int, 2) := by decide +kernel
theorem dX4_init_8 : decode cX4_init 8 = .ok (.putfield 9, 3) := by decide +kernel
theorem dX4_init_11 : decode cX4_init 11 = .ok (.aload_n 0, 1) := by decide +kernel
theorem dX4_init_12 : decode cX4_init 12 = .ok (.iconst 3, 1) := by decide +kernel
theorem dX4_init_13 : decode cX4_init 13 = .ok (.newarray .int, 2) := by decide +kernel
theorem dX4_init_15 : decode cX4_init 15 = .ok (.putfield 15, 3) := by decide +kernel
theorem dX4_init_18 : decode cX4_init 18 = .ok (.aload_n 0, 1) := by decide +kernel
theorem dX4_init_19 : decode cX4_init 19 = .ok (.iconst 0, 1) := by decide +kernel
theorem dX4_init_20 : decode cX4_init 20 = .ok (.putfield 18, 3) := by decide +kernel
theorem dX4_init_23 : decode cX4_init 23 = .ok (.aload_n 0, 1) := by decide +kernel
theorem dX4_init_24 : decode cX4_init 24 = .ok (.iconst 0, 1) := by decide +kernel
theorem dX4_init_25 : decode cX4_init 25 = .ok (.putfield 22, 3) := by decide +kernel
theorem dX4_init_28 : decode cX4_init 28 = .ok (.return_, 1) := by decide +kernel
theorem dX4_copyFrom_0 : decode cX4_copyFrom 0 = .ok (.aload_n 1, 1) := by decide +kernel
theorem dX4_copyFrom_1 : decode cX4_copyFrom 1 = .ok (.getfield 9, 3) := by decide +kernel
theorem dX4_copyFrom_4 : decode cX4_copyFrom 4 = .ok (.iconst 0, 1) := by decide +kernel
theorem dX4_copyFrom_5 : decode cX4_copyFrom 5 = .ok (.aload_n 0, 1) := by decide +kernel
theorem dX4_copyFrom_6 : decode cX4_copyFrom 6 = .ok (.getfield 9, 3) := by decide +kernel
theorem dX4_copyFrom_9 : decode cX4_copyFrom 9 = .ok (.iconst 0, 1) := by decide +kernel
theorem dX4_copyFrom_10 : decode cX4_copyFrom 10 = .ok (.iconst 3, 1) := by decide +kernel
theorem dX4_copyFrom_11 : decode cX4_copyFrom 11 = .ok (.invokestatic 26, 3) := by decide +kernel
theorem dX4_copyFrom_14 : decode cX4_copyFrom 14 = .ok (.aload_n 1, 1) := by decide +kernel
theorem dX4_copyFrom_15 : decode cX4_copyFrom 15 = .ok (.getfield 15, 3) := by decide +kernel
theorem dX4_copyFrom_18 : decode cX4_copyFrom 18 = .ok (.iconst 0, 1) := by decide +kernel
theorem dX4_copyFrom_19 : decode cX4_copyFrom 19 = .ok (.aload_n 0, 1) := by decide +kernel
theorem dX4_copyFrom_20 : decode cX4_copyFrom 20 = .ok (.getfield 15, 3) := by decide +kernel
theorem dX4_copyFrom_23 : decode cX4_copyFrom 23 = .ok (.iconst 0, 1) := by decide +kernel
theorem dX4_copyFrom_24 : decode cX4_copyFrom 24 = .ok (.iconst 3, 1) := by decide +kernel
theorem dX4_copyFrom_25 : decode cX4_copyFrom 25 = .ok (.invokestatic 26, 3) := by decide +kernel
theorem dX4_copyFrom_28 : decode cX4_copyFrom 28 = .ok (.aload_n 0, 1) := by decide +kernel
theorem dX4_copyFrom_29 : decode cX4_copyFrom 29 = .ok (.aload_n 1, 1) := by decide +kernel
theorem dX4_copyFrom_30 : decode cX4_copyFrom 30 = .ok (.getfield 18, 3) := by decide +kernel
theorem dX4_copyFrom_33 : decode cX4_copyFrom 33 = .ok (.putfield 18, 3) := by decide +kernel
theorem dX4_copyFrom_36 : decode cX4_copyFrom 36 = .ok (.aload_n 0, 1) := by decide +kernel
theorem dX4_copyFrom_37 : decode cX4_copyFrom 37 = .ok (.aload_n 1, 1) := by decide +kernel
theorem dX4_copyFrom_38 : decode cX4_copyFrom 38 = .ok (.getfield 22, 3) := by decide +kernel
theorem dX4_copyFrom_41 : decode cX4_copyFrom 41 = .ok (.putfield 22, 3) := by decide +kernel
theorem dX4_copyFrom_44 : decode cX4_copyFrom 44 = .ok (.return_, 1) := by decide +kernel
theorem dX4_hasMostCrumbs_0 : decode cX4_hasMostCrumbs 0 = .ok (.aload_n 0, 1) := by decide +kernel
theorem dX4_hasMostCrumbs_1 : decode cX4_hasMostCrumbs 1 = .ok (.getfield 22, 3) := by decide +kernel
theorem dX4_hasMostCrumbs_4 : decode cX4_hasMostCrumbs 4 = .ok (.bipush 20, 2) := by decide +kernel
theorem dX4_hasMostCrumbs_6 : decode cX4_hasMostCrumbs 6 = .ok (.if_icmp .ne 7, 3) := by decide +kernel
theorem dX4_hasMostCrumbs_9 : decode cX4_hasMostCrumbs 9 = .ok (.iconst 1, 1) := by decide +kernel
theorem dX4_hasMostCrumbs_10 : decode cX4_hasMostCrumbs 10 = .ok (.goto 4, 3) := by decide +kernel
theorem dX4_hasMostCrumbs_13 : decode cX4_hasMostCrumbs 13 = .ok (.iconst 0, 1) := by decide +kernel
theorem dX4_hasMostCrumbs_14 : decode cX4_hasMostCrumbs 14 = .ok (.ireturn, 1) := by decide +kernel
theorem dX4_playNow_0 : decode cX4_playNow 0 = .ok (.aload_n 0, 1) := by decide +kernel
theorem dX4_playNow_1 : decode cX4_playNow 1 = .ok (.getfield 22, 3) := by decide +kernel
theorem dX4_playNow_4 : decode cX4_playNow 4 = .ok (.iconst 5, 1) := by decide +kernel
theorem dX4_playNow_5 : decode cX4_playNow 5 = .ok (.idiv, 1) := by decide +kernel
theorem dX4_playNow_6 : decode cX4_playNow 6 = .ok (.ireturn, 1) := by decide +kernel
theorem dX4_distanceOf_0 : decode cX4_distanceOf 0 = .ok (.aload_n 0, 1) := by decide +kernel
theorem dX4_distanceOf_1 : decode cX4_distanceOf 1 = .ok (.getfield 15, 3) := by decide +kernel
theorem dX4_distanceOf_4 : decode cX4_distanceOf 4 = .ok (.iload_n 1, 1) := by decide +kernel
theorem dX4_distanceOf_5 : decode cX4_distanceOf 5 = .ok (.iaload, 1) := by decide +kernel
theorem dX4_distanceOf_6 : decode cX4_distanceOf 6 = .ok (.aload_n 0, 1) := by decide +kernel
theorem dX4_distanceOf_7 : decode cX4_distanceOf 7 = .ok (.getfield 9, 3) := by decide +kernel
theorem dX4_distanceOf_10 : decode cX4_distanceOf 10 = .ok (.iload_n 1, 1) := by decide +kernel
theorem dX4_distanceOf_11 : decode cX4_distanceOf 11 = .ok (.iaload, 1) := by decide +kernel
theorem dX4_distanceOf_12 : decode cX4_distanceOf 12 = .ok (.isub, 1) := by decide +kernel
theorem dX4_distanceOf_13 : decode cX4_distanceOf 13 = .ok (.bipush 10, 2) := by decide +kernel
theorem dX4_distanceOf_15 : decode cX4_distanceOf 15 = .ok (.iadd, 1) := by decide +kernel
theorem dX4_distanceOf_16 : decode cX4_distanceOf 16 = .ok (.bipush 10, 2) := by decide +kernel
theorem dX4_distanceOf_18 : decode cX4_distanceOf 18 = .ok (.irem, 1) := by decide +kernel
theorem dX4_distanceOf_19 : decode cX4_distanceOf 19 = .ok (.istore_n 2, 1) := by decide +kernel
theorem dX4_distanceOf_20 : decode cX4_distanceOf 20 = .ok (.bipush 10, 2) := by decide +kernel
theorem dX4_distanceOf_22 : decode cX4_distanceOf 22 = .ok (.iload_n 2, 1) := by decide +kernel
theorem dX4_distanceOf_23 : decode cX4_distanceOf 23 = .ok (.isub, 1) := by decide +kernel
theorem dX4_distanceOf_24 : decode cX4_distanceOf 24 = .ok (.istore_n 3, 1) := by decide +kernel
theorem dX4_distanceOf_25 : decode cX4_distanceOf 25 = .ok (.iload_n 2, 1) := by decide +kernel
theorem dX4_distanceOf_26 : decode cX4_distanceOf 26 = .ok (.iload_n 3, 1) := by decide +kernel
theorem dX4_distanceOf_27 : decode cX4_distanceOf 27 = .ok (.if_icmp .ge 7, 3) := by decide +kernel
theorem dX4_distanceOf_30 : decode cX4_distanceOf 30 = .ok (.iload_n 2, 1) := by decide +kernel
theorem dX4_distanceOf_31 : decode cX4_distanceOf 31 = .ok (.goto 4, 3) := by decide +kernel
theorem dX4_distanceOf_34 : decode cX4_distanceOf 34 = .ok (.iload_n 3, 1) := by decide +kernel
theorem dX4_distanceOf_35 : decode cX4_distanceOf 35 = .ok (.ireturn, 1) := by decide +kernel
theorem dX4_countFitting_0 : decode cX4_countFitting 0 = .ok (.iconst 0, 1) := by decide +kernel
theorem dX4_countFitting_1 : decode cX4_countFitting 1 = .ok (.istore_n 1, 1) := by decide +kernel
theorem dX4_countFitting_2 : decode cX4_countFitting 2 = .ok (.aload_n 0, 1) := by decide +kernel
theorem dX4_countFitting_3 : decode cX4_countFitting 3 = .ok (.invokevirtual 32, 3) := by decide +kernel
theorem dX4_countFitting_6 : decode cX4_countFitting 6 = .ok (.istore_n 2, 1) := by decide +kernel
theorem dX4_countFitting_7 : decode cX4_countFitting 7 = .ok (.iconst 0, 1) := by decide +kernel
theorem dX4_countFitting_8 : decode cX4_countFitting 8 = .ok (.istore_n 3, 1) := by decide +kernel
theorem dX4_countFitting_9 : decode cX4_countFitting 9 = .ok (.iload_n 3, 1) := by decide +kernel
theorem dX4_countFitting_10 : decode cX4_countFitting 10 = .ok (.iconst 3, 1) := by decide +kernel
theorem dX4_countFitting_11 : decode cX4_countFitting 11 = .ok (.if_icmp .ge 21, 3) := by decide +kernel
theorem dX4_countFitting_14 : decode cX4_countFitting 14 = .ok (.aload_n 0, 1) := by decide +kernel
theorem dX4_countFitting_15 : decode cX4_countFitting 15 = .ok (.iload_n 3, 1) := by decide +kernel
theorem dX4_countFitting_16 : decode cX4_countFitting 16 = .ok (.invokevirtual 36, 3) := by decide +kernel
theorem dX4_countFitting_19 : decode cX4_countFitting 19 = .ok (.iload_n 2, 1) := by decide +kernel
theorem dX4_countFitting_20 : decode cX4_countFitting 20 = .ok (.if_icmp .gt 6, 3) := by decide +kernel
theorem dX4_countFitting_23 : decode cX4_countFitting 23 = .ok (.iinc 1 1, 3) := by decide +kernel
theorem dX4_countFitting_26 : decode cX4_countFitting 26 = .ok (.iinc 3 1, 3) := by decide +kernel
theorem dX4_countFitting_29 : decode cX4_countFitting 29 = .ok (.goto (-20), 3) := by decide +kernel
theorem dX4_countFitting_32 : decode cX4_countFitting 32 = .ok (.iload_n 1, 1) := by decide +kernel
theorem dX4_countFitting_33 : decode cX4_countFitting 33 = .ok (.ireturn, 1) := by decide +kernel
theorem dX4_stepsByDistances_0 : decode cX4_stepsByDistances 0 = .ok (.iconst 0, 1) := by decide +kernel
theorem dX4_stepsByDistances_1 : decode cX4_stepsByDistances 1 = .ok (.istore_n 1, 1) := by decide +kernel
theorem dX4_stepsByDistances_2 : decode cX4_stepsByDistances 2 = .ok (.iconst 0, 1) := by decide +kernel
theorem dX4_stepsByDistances_3 : decode cX4_stepsByDistances 3 = .ok (.istore_n 2, 1) := by decide +kernel
theorem dX4_stepsByDistances_4 : decode cX4_stepsByDistances 4 = .ok (.iload_n 2, 1) := by decide +kernel
theorem dX4_stepsByDistances_5 : decode cX4_stepsByDistances 5 = .ok (.iconst 3, 1) := by decide +kernel
theorem dX4_stepsByDistances_6 : decode cX4_stepsByDistances 6 = .ok (.if_icmp .ge 26, 3) := by decide +kernel
theorem dX4_stepsByDistances_9 : decode cX4_stepsByDistances 9 = .ok (.iload_n 1, 1) := by decide +kernel
theorem dX4_stepsByDistances_10 : decode cX4_stepsByDistances 10 = .ok (.iconst 0, 1) := by decide +kernel
theorem dX4_stepsByDistances_11 : decode cX4_stepsByDistances 11 = .ok (.aload_n 0, 1) := by decide +kernel
theorem dX4_stepsByDistances_12 : decode cX4_stepsByDistances 12 = .ok (.iload_n 2, 1) := by decide +kernel
theorem dX4_stepsByDistances_13 : decode cX4_stepsByDistances 13 = .ok (.invokevirtual 36, 3) := by decide +kernel
theorem dX4_stepsByDistances_16 : decode cX4_stepsByDistances 16 = .ok (.aload_n 0, 1) := by decide +kernel
theorem dX4_stepsByDistances_17 : decode cX4_stepsByDistances 17 = .ok (.invokevirtual 32, 3) := by decide +kernel
theorem dX4_stepsByDistances_20 : decode cX4_stepsByDistances 20 = .ok (.isub, 1) := by decide +kernel
theorem dX4_stepsByDistances_21 : decode cX4_stepsByDistances 21 = .ok (.invokestatic 40, 3) := by decide +kernel
theorem dX4_stepsByDistances_24 : decode cX4_stepsByDistances 24 = .ok (.iadd, 1) := by decide +kernel
theorem dX4_stepsByDistances_25 : decode cX4_stepsByDistances 25 = .ok (.istore_n 1, 1) := by decide +kernel
theorem dX4_stepsByDistances_26 : decode cX4_stepsByDistances 26 = .ok (.iinc 2 1, 3) := by decide +kernel
theorem dX4_stepsByDistances_29 : decode cX4_stepsByDistances 29 = .ok (.goto (-25), 3) := by decide +kernel
theorem dX4_stepsByDistances_32 : decode cX4_stepsByDistances 32 = .ok (.iload_n 1, 1) := by decide +kernel
theorem dX4_stepsByDistances_33 : decode cX4_stepsByDistances 33 = .ok (.ireturn, 1) := by decide +kernel
theorem dX4_stepsByTurning_0 : decode cX4_stepsByTurning 0 = .ok (.iconst 0, 1) := by decide +kernel
theorem dX4_stepsByTurning_1 : decode cX4_stepsByTurning 1 = .ok (.istore_n 2, 1) := by decide +kernel
theorem dX4_stepsByTurning_2 : decode cX4_stepsByTurning 2 = .ok (.iconst 0, 1) := by decide +kernel
theorem dX4_stepsByTurning_3 : decode cX4_stepsByTurning 3 = .ok (.istore_n 3, 1) := by decide +kernel
theorem dX4_stepsByTurning_4 : decode cX4_stepsByTurning 4 = .ok (.iload_n 3, 1) := by decide +kernel
theorem dX4_stepsByTurning_5 : decode cX4_stepsByTurning 5 = .ok (.iconst 3, 1) := by decide +kernel
theorem dX4_stepsByTurning_6 : decode cX4_stepsByTurning 6 = .ok (.if_icmp .ge 45, 3) := by decide +kernel
theorem dX4_stepsByTurning_9 : decode cX4_stepsByTurning 9 = .ok (.aload_n 1, 1) := by decide +kernel
theorem dX4_stepsByTurning_10 : decode cX4_stepsByTurning 10 = .ok (.aload_n 0, 1) := by decide +kernel
theorem dX4_stepsByTurning_11 : decode cX4_stepsByTurning 11 = .ok (.invokevirtual 46, 3) := by decide +kernel
theorem dX4_stepsByTurning_14 : decode cX4_stepsByTurning 14 = .ok (.aload_n 1, 1) := by decide +kernel
theorem dX4_stepsByTurning_15 : decode cX4_stepsByTurning 15 = .ok (.iload_n 3, 1) := by decide +kernel
theorem dX4_stepsByTurning_16 : decode cX4_stepsByTurning 16 = .ok (.iconst 1, 1) := by decide +kernel
theorem dX4_stepsByTurning_17 : decode cX4_stepsByTurning 17 = .ok (.invokevirtual 50, 3) := by decide +kernel
theorem dX4_stepsByTurning_20 : decode cX4_stepsByTurning 20 = .ok (.istore 4, 2) := by decide +kernel
theorem dX4_stepsByTurning_22 : decode cX4_stepsByTurning 22 = .ok (.aload_n 1, 1) := by decide +kernel
theorem dX4_stepsByTurning_23 : decode cX4_stepsByTurning 23 = .ok (.aload_n 0, 1) := by decide +kernel
theorem dX4_stepsByTurning_24 : decode cX4_stepsByTurning 24 = .ok (.invokevirtual 46, 3) := by decide +kernel
theorem dX4_stepsByTurning_27 : decode cX4_stepsByTurning 27 = .ok (.aload_n 1, 1) := by decide +kernel
theorem dX4_stepsByTurning_28 : decode cX4_stepsByTurning 28 = .ok (.iload_n 3, 1) := by decide +kernel
theorem dX4_stepsByTurning_29 : decode cX4_stepsByTurning 29 = .ok (.iconst (-1), 1) := by decide +kernel
theorem dX4_stepsByTurning_30 : decode cX4_stepsByTurning 30 = .ok (.invokevirtual 50, 3) := by decide +kernel
theorem dX4_stepsByTurning_33 : decode cX4_stepsByTurning 33 = .ok (.istore 5, 2) := by decide +kernel
theorem dX4_stepsByTurning_35 : decode cX4_stepsByTurning 35 = .ok (.iload_n 2, 1) := by decide +kernel
theorem dX4_stepsByTurning_36 : decode cX4_stepsByTurning 36 = .ok (.iload 4, 2) := by decide +kernel
theorem dX4_stepsByTurning_38 : decode cX4_stepsByTurning 38 = .ok (.iload 5, 2) := by decide +kernel
theorem dX4_stepsByTurning_40 : decode cX4_stepsByTurning 40 = .ok (.invokestatic 53, 3) := by decide +kernel
theorem dX4_stepsByTurning_43 : decode cX4_stepsByTurning 43 = .ok (.iadd, 1) := by decide +kernel
theorem dX4_stepsByTurning_44 : decode cX4_stepsByTurning 44 = .ok (.istore_n 2, 1) := by decide +kernel
theorem dX4_stepsByTurning_45 : decode cX4_stepsByTurning 45 = .ok (.iinc 3 1, 3) := by decide +kernel
theorem dX4_stepsByTurning_48 : decode cX4_stepsByTurning 48 = .ok (.goto (-44), 3) := by decide +kernel
theorem dX4_stepsByTurning_51 : decode cX4_stepsByTurning 51 = .ok (.iload_n 2, 1) := by decide +kernel
theorem dX4_stepsByTurning_52 : decode cX4_stepsByTurning 52 = .ok (.ireturn, 1) := by decide +kernel
theorem dX4_turnUntilFitting_0 : decode cX4_turnUntilFitting 0 = .ok (.iconst 0, 1) := by decide +kernel
theorem dX4_turnUntilFitting_1 : decode cX4_turnUntilFitting 1 = .ok (.istore_n 3, 1) := by decide +kernel
theorem dX4_turnUntilFitting_2 : decode cX4_turnUntilFitting 2 = .ok (.aload_n 0, 1) := by decide +kernel
theorem dX4_turnUntilFitting_3 : decode cX4_turnUntilFitting 3 = .ok (.invokevirtual 32, 3) := by decide +kernel
theorem dX4_turnUntilFitting_6 : decode cX4_turnUntilFitting 6 = .ok (.istore 4, 2) := by decide +kernel
theorem dX4_turnUntilFitting_8 : decode cX4_turnUntilFitting 8 = .ok (.iload_n 3, 1) := by decide +kernel
theorem dX4_turnUntilFitting_9 : decode cX4_turnUntilFitting 9 = .ok (.bipush 10, 2) := by decide +kernel
theorem dX4_turnUntilFitting_11 : decode cX4_turnUntilFitting 11 = .ok (.if_icmp .ge 26, 3) := by decide +kernel
theorem dX4_turnUntilFitting_14 : decode cX4_turnUntilFitting 14 = .ok (.aload_n 0, 1) := by decide +kernel
theorem dX4_turnUntilFitting_15 : decode cX4_turnUntilFitting 15 = .ok (.iload_n 1, 1) := by decide +kernel
theorem dX4_turnUntilFitting_16 : decode cX4_turnUntilFitting 16 = .ok (.invokevirtual 36, 3) := by decide +kernel
theorem dX4_turnUntilFitting_19 : decode cX4_turnUntilFitting 19 = .ok (.iload 4, 2) := by decide +kernel
theorem dX4_turnUntilFitting_21 : decode cX4_turnUntilFitting 21 = .ok (.if_icmp .le 16, 3) := by decide +kernel
theorem dX4_turnUntilFitting_24 : decode cX4_turnUntilFitting 24 = .ok (.aload_n 0, 1) := by decide +kernel
theorem dX4_turnUntilFitting_25 : decode cX4_turnUntilFitting 25 = .ok (.iload_n 1, 1) := by decide +kernel
theorem dX4_turnUntilFitting_26 : decode cX4_turnUntilFitting 26 = .ok (.iload_n 2, 1) := by decide +kernel
theorem dX4_turnUntilFitting_27 : decode cX4_turnUntilFitting 27 = .ok (.invokevirtual 56, 3) := by decide +kernel
theorem dX4_turnUntilFitting_30 : decode cX4_turnUntilFitting 30 = .ok (.pop, 1) := by decide +kernel
theorem dX4_turnUntilFitting_31 : decode cX4_turnUntilFitting 31 = .ok (.iinc 3 1, 3) := by decide +kernel
theorem dX4_turnUntilFitting_34 : decode cX4_turnUntilFitting 34 = .ok (.goto (-26), 3) := by decide +kernel
theorem dX4_turnUntilFitting_37 : decode cX4_turnUntilFitting 37 = .ok (.iload_n 3, 1) := by decide +kernel
theorem dX4_turnUntilFitting_38 : decode cX4_turnUntilFitting 38 = .ok (.ireturn, 1) := by decide +kernel
theorem dX4_turnBy_0 : decode cX4_turnBy 0 = .ok (.aload_n 0, 1) := by decide +kernel
theorem dX4_turnBy_1 : decode cX4_turnBy 1 = .ok (.getfield 9, 3) := by decide +kernel
theorem dX4_turnBy_4 : decode cX4_turnBy 4 = .ok (.iload_n 1, 1) := by decide +kernel
theorem dX4_turnBy_5 : decode cX4_turnBy 5 = .ok (.aload_n 0, 1) := by decide +kernel
theorem dX4_turnBy_6 : decode cX4_turnBy 6 = .ok (.getfield 9, 3) := by decide +kernel
theorem dX4_turnBy_9 : decode cX4_turnBy 9 = .ok (.iload_n 1, 1) := by decide +kernel
theorem dX4_turnBy_10 : decode cX4_turnBy 10 = .ok (.iaload, 1) := by decide +kernel
theorem dX4_turnBy_11 : decode cX4_turnBy 11 = .ok (.iload_n 2, 1) := by decide +kernel
theorem dX4_turnBy_12 : decode cX4_turnBy 12 = .ok (.iadd, 1) := by decide +kernel
theorem dX4_turnBy_13 : decode cX4_turnBy 13 = .ok (.bipush 10, 2) := by decide +kernel
theorem dX4_turnBy_15 : decode cX4_turnBy 15 = .ok (.iadd, 1) := by decide +kernel
theorem dX4_turnBy_16 : decode cX4_turnBy 16 = .ok (.bipush 10, 2) := by decide +kernel
theorem dX4_turnBy_18 : decode cX4_turnBy 18 = .ok (.irem, 1) := by decide +kernel
theorem dX4_turnBy_19 : decode cX4_turnBy 19 = .ok (.iastore, 1) := by decide +kernel
theorem dX4_turnBy_20 : decode cX4_turnBy 20 = .ok (.aload_n 0, 1) := by decide +kernel
theorem dX4_turnBy_21 : decode cX4_turnBy 21 = .ok (.getfield 9, 3) := by decide +kernel
theorem dX4_turnBy_24 : decode cX4_turnBy 24 = .ok (.iload_n 1, 1) := by decide +kernel
theorem dX4_turnBy_25 : decode cX4_turnBy 25 = .ok (.iaload, 1) := by decide +kernel
theorem dX4_turnBy_26 : decode cX4_turnBy 26 = .ok (.ireturn, 1) := by decide +kernel
theorem dX4_takeTry_0 : decode cX4_takeTry 0 = .ok (.aload_n 0, 1) := by decide +kernel
theorem dX4_takeTry_1 : decode cX4_takeTry 1 = .ok (.invokevirtual 59, 3) := by decide +kernel
theorem dX4_takeTry_4 : decode cX4_takeTry 4 = .ok (.istore_n 1, 1) := by decide +kernel
theorem dX4_takeTry_5 : decode cX4_takeTry 5 = .ok (.iload_n 1, 1) := by decide +kernel
theorem dX4_takeTry_6 : decode cX4_takeTry 6 = .ok (.iconst 3, 1) := by decide +kernel
theorem dX4_takeTry_7 : decode cX4_takeTry 7 = .ok (.if_icmp .ne 10, 3) := by decide +kernel
theorem dX4_takeTry_10 : decode cX4_takeTry 10 = .ok (.aload_n 0, 1) := by decide +kernel
theorem dX4_takeTry_11 : decode cX4_takeTry 11 = .ok (.iconst 1, 1) := by decide +kernel
theorem dX4_takeTry_12 : decode cX4_takeTry 12 = .ok (.putfield 18, 3) := by decide +kernel
theorem dX4_takeTry_15 : decode cX4_takeTry 15 = .ok (.iconst 1, 1) := by decide +kernel
theorem dX4_takeTry_16 : decode cX4_takeTry 16 = .ok (.ireturn, 1) := by decide +kernel
theorem dX4_takeTry_17 : decode cX4_takeTry 17 = .ok (.aload_n 0, 1) := by decide +kernel
theorem dX4_takeTry_18 : decode cX4_takeTry 18 = .ok (.bipush 20, 2) := by decide +kernel
theorem dX4_takeTry_20 : decode cX4_takeTry 20 = .ok (.aload_n 0, 1) := by decide +kernel
theorem dX4_takeTry_21 : decode cX4_takeTry 21 = .ok (.getfield 22, 3) := by decide +kernel
theorem dX4_takeTry_24 : decode cX4_takeTry 24 = .ok (.iconst 3, 1) := by decide +kernel
theorem dX4_takeTry_25 : decode cX4_takeTry 25 = .ok (.iadd, 1) := by decide +kernel
theorem dX4_takeTry_26 : decode cX4_takeTry 26 = .ok (.iload_n 1, 1) := by decide +kernel
theorem dX4_takeTry_27 : decode cX4_takeTry 27 = .ok (.isub, 1) := by decide +kernel
theorem dX4_takeTry_28 : decode cX4_takeTry 28 = .ok (.invokestatic 53, 3) := by decide +kernel
theorem dX4_takeTry_31 : decode cX4_takeTry 31 = .ok (.putfield 22, 3) := by decide +kernel
theorem dX4_takeTry_34 : decode cX4_takeTry 34 = .ok (.aload_n 0, 1) := by decide +kernel
theorem dX4_takeTry_35 : decode cX4_takeTry 35 = .ok (.aload_n 0, 1) := by decide +kernel
theorem dX4_takeTry_36 : decode cX4_takeTry 36 = .ok (.invokevirtual 62, 3) := by decide +kernel
theorem dX4_takeTry_39 : decode cX4_takeTry 39 = .ok (.putfield 18, 3) := by decide +kernel
theorem dX4_takeTry_42 : decode cX4_takeTry 42 = .ok (.iconst 0, 1) := by decide +kernel
theorem dX4_takeTry_43 : decode cX4_takeTry 43 = .ok (.ireturn, 1) := by decide +kernel
theorem dX4_setPositions_0 : decode cX4_setPositions 0 = .ok (.iconst 0, 1) := by decide +kernel
theorem dX4_setPositions_1 : decode cX4_setPositions 1 = .ok (.istore 4, 2) := by decide +kernel
theorem dX4_setPositions_3 : decode cX4_setPositions 3 = .ok (.iload 4, 2) := by decide +kernel
theorem dX4_setPositions_5 : decode cX4_setPositions 5 = .ok (.aload_n 0, 1) := by decide +kernel
theorem dX4_setPositions_6 : decode cX4_setPositions 6 = .ok (.iconst 0, 1) := by decide +kernel
theorem dX4_setPositions_7 : decode cX4_setPositions 7 = .ok (.iload_n 1, 1) := by decide +kernel
theorem dX4_setPositions_8 : decode cX4_setPositions 8 = .ok (.invokevirtual 66, 3) := by decide +kernel
theorem dX4_setPositions_11 : decode cX4_setPositions 11 = .ok (.iadd, 1) := by decide +kernel
theorem dX4_setPositions_12 : decode cX4_setPositions 12 = .ok (.istore 4, 2) := by decide +kernel
theorem dX4_setPositions_14 : decode cX4_setPositions 14 = .ok (.iload 4, 2) := by decide +kernel
theorem dX4_setPositions_16 : decode cX4_setPositions 16 = .ok (.aload_n 0, 1) := by decide +kernel
theorem dX4_setPositions_17 : decode cX4_setPositions 17 = .ok (.iconst 1, 1) := by decide +kernel
theorem dX4_setPositions_18 : decode cX4_setPositions 18 = .ok (.iload_n 2, 1) := by decide +kernel
theorem dX4_setPositions_19 : decode cX4_setPositions 19 = .ok (.invokevirtual 66, 3) := by decide +kernel
theorem dX4_setPositions_22 : decode cX4_setPositions 22 = .ok (.iadd, 1) := by decide +kernel
theorem dX4_setPositions_23 : decode cX4_setPositions 23 = .ok (.istore 4, 2) := by decide +kernel
theorem dX4_setPositions_25 : decode cX4_setPositions 25 = .ok (.iload 4, 2) := by decide +kernel
theorem dX4_setPositions_27 : decode cX4_setPositions 27 = .ok (.aload_n 0, 1) := by decide +kernel
theorem dX4_setPositions_28 : decode cX4_setPositions 28 = .ok (.iconst 2, 1) := by decide +kernel
theorem dX4_setPositions_29 : decode cX4_setPositions 29 = .ok (.iload_n 3, 1) := by decide +kernel
theorem dX4_setPositions_30 : decode cX4_setPositions 30 = .ok (.invokevirtual 66, 3) := by decide +kernel
theorem dX4_setPositions_33 : decode cX4_setPositions 33 = .ok (.iadd, 1) := by decide +kernel
theorem dX4_setPositions_34 : decode cX4_setPositions 34 = .ok (.istore 4, 2) := by decide +kernel
theorem dX4_setPositions_36 : decode cX4_setPositions 36 = .ok (.iload 4, 2) := by decide +kernel
theorem dX4_setPositions_38 : decode cX4_setPositions 38 = .ok (.ireturn, 1) := by decide +kernel
theorem dX4_setPosition_0 : decode cX4_setPosition 0 = .ok (.aload_n 0, 1) := by decide +kernel
theorem dX4_setPosition_1 : decode cX4_setPosition 1 = .ok (.getfield 15, 3) := by decide +kernel
theorem dX4_setPosition_4 : decode cX4_setPosition 4 = .ok (.iload_n 1, 1) := by decide +kernel
theorem dX4_setPosition_5 : decode cX4_setPosition 5 = .ok (.iaload, 1) := by decide +kernel
theorem dX4_setPosition_6 : decode cX4_setPosition 6 = .ok (.iload_n 2, 1) := by decide +kernel
theorem dX4_setPosition_7 : decode cX4_setPosition 7 = .ok (.if_icmp .ne 7, 3) := by decide +kernel
theorem dX4_setPosition_10 : decode cX4_setPosition 10 = .ok (.iconst 0, 1) := by decide +kernel
theorem dX4_setPosition_11 : decode cX4_setPosition 11 = .ok (.goto 4, 3) := by decide +kernel
theorem dX4_setPosition_14 : decode cX4_setPosition 14 = .ok (.iconst 1, 1) := by decide +kernel
theorem dX4_setPosition_15 : decode cX4_setPosition 15 = .ok (.istore_n 3, 1) := by decide +kernel
theorem dX4_setPosition_16 : decode cX4_setPosition 16 = .ok (.aload_n 0, 1) := by decide +kernel
theorem dX4_setPosition_17 : decode cX4_setPosition 17 = .ok (.getfield 15, 3) := by decide +kernel
theorem dX4_setPosition_20 : decode cX4_setPosition 20 = .ok (.iload_n 1, 1) := by decide +kernel
theorem dX4_setPosition_21 : decode cX4_setPosition 21 = .ok (.iload_n 2, 1) := by decide +kernel
theorem dX4_setPosition_22 : decode cX4_setPosition 22 = .ok (.iastore, 1) := by decide +kernel
theorem dX4_setPosition_23 : decode cX4_setPosition 23 = .ok (.iload_n 3, 1) := by decide +kernel
theorem dX4_setPosition_24 : decode cX4_setPosition 24 = .ok (.ireturn, 1) := by decide +kernel
theorem dX4_renew_0 : decode cX4_renew 0 = .ok (.iconst 0, 1) := by decide +kernel
theorem dX4_renew_1 : decode cX4_renew 1 = .ok (.istore_n 1, 1) := by decide +kernel
theorem dX4_renew_2 : decode cX4_renew 2 = .ok (.iload_n 1, 1) := by decide +kernel
theorem dX4_renew_3 : decode cX4_renew 3 = .ok (.iconst 3, 1) := by decide +kernel
theorem dX4_renew_4 : decode cX4_renew 4 = .ok (.if_icmp .ge 16, 3) := by decide +kernel
theorem dX4_renew_7 : decode cX4_renew 7 = .ok (.aload_n 0, 1) := by decide +kernel
theorem dX4_renew_8 : decode cX4_renew 8 = .ok (.getfield 9, 3) := by decide +kernel
theorem dX4_renew_11 : decode cX4_renew 11 = .ok (.iload_n 1, 1) := by decide +kernel
theorem dX4_renew_12 : decode cX4_renew 12 = .ok (.iconst 0, 1) := by decide +kernel
theorem dX4_renew_13 : decode cX4_renew 13 = .ok (.iastore, 1) := by decide +kernel
theorem dX4_renew_14 : decode cX4_renew 14 = .ok (.iinc 1 1, 3) := by decide +kernel
theorem dX4_renew_17 : decode cX4_renew 17 = .ok (.goto (-15), 3) := by decide +kernel
theorem dX4_renew_20 : decode cX4_renew 20 = .ok (.aload_n 0, 1) := by decide +kernel
theorem dX4_renew_21 : decode cX4_renew 21 = .ok (.iconst 0, 1) := by decide +kernel
theorem dX4_renew_22 : decode cX4_renew 22 = .ok (.putfield 18, 3) := by decide +kernel
theorem dX4_renew_25 : decode cX4_renew 25 = .ok (.aload_n 0, 1) := by decide +kernel
theorem dX4_renew_26 : decode cX4_renew 26 = .ok (.iconst 0, 1) := by decide +kernel
theorem dX4_renew_27 : decode cX4_renew 27 = .ok (.putfield 22, 3) := by decide +kernel
theorem dX4_renew_30 : decode cX4_renew 30 = .ok (.return_, 1) := by decide +kernel
theorem dX6_init_0 : decode cX6_init 0 = .ok (.aload_n 0, 1) := by decide +kernel
theorem dX6_init_1 : decode cX6_init 1 = .ok (.invokespecial 3, 3) := by decide +kernel
theorem dX6_init_4 : decode cX6_init 4 = .ok (.aload_n 0, 1) := by decide +kernel
theorem dX6_init_5 : decode cX6_init 5 = .ok (.new 9, 3) := by decide +kernel
theorem dX6_init_8 : decode cX6_init 8 = .ok (.dup, 1) := by decide +kernel
theorem dX6_init_9 : decode cX6_init 9 = .ok (.invokespecial 11, 3) := by decide +kernel
theorem dX6_init_12 : decode cX6_init 12 = .ok (.putfield 12, 3) := by decide +kernel
theorem dX6_init_15 : decode cX6_init 15 = .ok (.aload_n 0, 1) := by decide +kernel
theorem dX6_init_16 : decode cX6_init 16 = .ok (.iconst 4, 1) := by decide +kernel
theorem dX6_init_17 : decode cX6_init 17 = .ok (.newarray .int, 2) := by decide +kernel
theorem dX6_init_19 : decode cX6_init 19 = .ok (.putfield 18, 3) := by decide +kernel
theorem dX6_init_22 : decode cX6_init 22 = .ok (.aload_n 0, 1) := by decide +kernel
theorem dX6_init_23 : decode cX6_init 23 = .ok (.iconst 0, 1) := by decide +kernel
theorem dX6_init_24 : decode cX6_init 24 = .ok (.putfield 22, 3) := by decide +kernel
theorem dX6_init_27 : decode cX6_init 27 = .ok (.return_, 1) := by decide +kernel
theorem dX6_countCommands_0 : decode cX6_countCommands 0 = .ok (.iconst 0, 1) := by decide +kernel
theorem dX6_countCommands_1 : decode cX6_countCommands 1 = .ok (.istore_n 1, 1) := by decide +kernel
theorem dX6_countCommands_2 : decode cX6_countCommands 2 = .ok (.iconst 1, 1) := by decide +kernel
theorem dX6_countCommands_3 : decode cX6_countCommands 3 = .ok (.istore_n 2, 1) := by decide +kernel
theorem dX6_countCommands_4 : decode cX6_countCommands 4 = .ok (.iload_n 2, 1) := by decide +kernel
theorem dX6_countCommands_5 : decode cX6_countCommands 5 = .ok (.bipush 60, 2) := by decide +kernel
theorem dX6_countCommands_7 : decode cX6_countCommands 7 = .ok (.if_icmp .gt 42, 3) := by decide +kernel
theorem dX6_countCommands_10 : decode cX6_countCommands 10 = .ok (.aload_n 0, 1) := by decide +kernel
theorem dX6_countCommands_11 : decode cX6_countCommands 11 = .ok (.iload_n 1, 1) := by decide +kernel
theorem dX6_countCommands_12 : decode cX6_countCommands 12 = .ok (.invokevirtual 26, 3) := by decide +kernel
theorem dX6_countCommands_15 : decode cX6_countCommands 15 = .ok (.ifnonnull 5, 3) := by decide +kernel
theorem dX6_countCommands_18 : decode cX6_countCommands 18 = .ok (.iconst (-1), 1) := by decide +kernel
theorem dX6_countCommands_19 : decode cX6_countCommands 19 = .ok (.ireturn, 1) := by decide +kernel
theorem dX6_countCommands_20 : decode cX6_countCommands 20 = .ok (.aload_n 0, 1) := by decide +kernel
theorem dX6_countCommands_21 : decode cX6_countCommands 21 = .ok (.getfield 22, 3) := by decide +kernel
theorem dX6_countCommands_24 : decode cX6_countCommands 24 = .ok (.aload_n 0, 1) := by decide +kernel
theorem dX6_countCommands_25 : decode cX6_countCommands 25 = .ok (.getfield 12, 3) := by decide +kernel
theorem dX6_countCommands_28 : decode cX6_countCommands 28 = .ok (.invokevirtual 30, 3) := by decide +kernel
theorem dX6_countCommands_31 : decode cX6_countCommands 31 = .ok (.if_icmp .ne 5, 3) := by decide +kernel
theorem dX6_countCommands_34 : decode cX6_countCommands 34 = .ok (.iload_n 2, 1) := by decide +kernel
theorem dX6_countCommands_35 : decode cX6_countCommands 35 = .ok (.ireturn, 1) := by decide +kernel
theorem dX6_countCommands_36 : decode cX6_countCommands 36 = .ok (.aload_n 0, 1) := by decide +kernel
theorem dX6_countCommands_37 : decode cX6_countCommands 37 = .ok (.getfield 22, 3) := by decide +kernel
theorem dX6_countCommands_40 : decode cX6_countCommands 40 = .ok (.iconst 1, 1) := by decide +kernel
theorem dX6_countCommands_41 : decode cX6_countCommands 41 = .ok (.iadd, 1) := by decide +kernel
theorem dX6_countCommands_42 : decode cX6_countCommands 42 = .ok (.istore_n 1, 1) := by decide +kernel
theorem dX6_countCommands_43 : decode cX6_countCommands 43 = .ok (.iinc 2 1, 3) := by decide +kernel
theorem dX6_countCommands_46 : decode cX6_countCommands 46 = .ok (.goto (-42), 3) := by decide +kernel
theorem dX6_countCommands_49 : decode cX6_countCommands 49 = .ok (.iconst (-1), 1) := by decide +kernel
theorem dX6_countCommands_50 : decode cX6_countCommands 50 = .ok (.ireturn, 1) := by decide +kernel
theorem dX6_read_0 : decode cX6_read 0 = .ok (.aload_n 0, 1) := by decide +kernel
theorem dX6_read_1 : decode cX6_read 1 = .ok (.iload_n 1, 1) := by decide +kernel
theorem dX6_read_2 : decode cX6_read 2 = .ok (.putfield 22, 3) := by decide +kernel
theorem dX6_read_5 : decode cX6_read 5 = .ok (.getstatic 34, 3) := by decide +kernel
theorem dX6_read_8 : decode cX6_read 8 = .ok (.astore_n 2, 1) := by decide +kernel
theorem dX6_read_9 : decode cX6_read 9 = .ok (.aload_n 2, 1) := by decide +kernel
theorem dX6_read_10 : decode cX6_read 10 = .ok (.arraylength, 1) := by decide +kernel
theorem dX6_read_11 : decode cX6_read 11 = .ok (.istore_n 3, 1) := by decide +kernel
theorem dX6_read_12 : decode cX6_read 12 = .ok (.iconst 0, 1) := by decide +kernel
theorem dX6_read_13 : decode cX6_read 13 = .ok (.istore 4, 2) := by decide +kernel
theorem dX6_read_15 : decode cX6_read 15 = .ok (.iload 4, 2) := by decide +kernel
theorem dX6_read_17 : decode cX6_read 17 = .ok (.iload_n 3, 1) := by decide +kernel
theorem dX6_read_18 : decode cX6_read 18 = .ok (.if_icmp .ge 85, 3) := by decide +kernel
theorem dX6_read_21 : decode cX6_read 21 = .ok (.aload_n 2, 1) := by decide +kernel
theorem dX6_read_22 : decode cX6_read 22 = .ok (.iload 4, 2) := by decide +kernel
theorem dX6_read_24 : decode cX6_read 24 = .ok (.aaload, 1) := by decide +kernel
theorem dX6_read_25 : decode cX6_read 25 = .ok (.astore 5, 2) := by decide +kernel
theorem dX6_read_27 : decode cX6_read 27 = .ok (.iload_n 1, 1) := by decide +kernel
theorem dX6_read_28 : decode cX6_read 28 = .ok (.aload_n 0, 1) := by decide +kernel
theorem dX6_read_29 : decode cX6_read 29 = .ok (.aload 5, 2) := by decide +kernel
theorem dX6_read_31 : decode cX6_read 31 = .ok (.getfield 38, 3) := by decide +kernel
theorem dX6_read_34 : decode cX6_read 34 = .ok (.iload_n 1, 1) := by decide +kernel
theorem dX6_read_35 : decode cX6_read 35 = .ok (.invokevirtual 44, 3) := by decide +kernel
theorem dX6_read_38 : decode cX6_read 38 = .ok (.iadd, 1) := by decide +kernel
theorem dX6_read_39 : decode cX6_read 39 = .ok (.istore 6, 2) := by decide +kernel
theorem dX6_read_41 : decode cX6_read 41 = .ok (.iload 6, 2) := by decide +kernel
theorem dX6_read_43 : decode cX6_read 43 = .ok (.iload_n 1, 1) := by decide +kernel
theorem dX6_read_44 : decode cX6_read 44 = .ok (.aload 5, 2) := by decide +kernel
theorem dX6_read_46 : decode cX6_read 46 = .ok (.getfield 38, 3) := by decide +kernel
theorem dX6_read_49 : decode cX6_read 49 = .ok (.invokevirtual 48, 3) := by decide +kernel
theorem dX6_read_52 : decode cX6_read 52 = .ok (.iadd, 1) := by decide +kernel
theorem dX6_read_53 : decode cX6_read 53 = .ok (.if_icmp .ne 31, 3) := by decide +kernel
theorem dX6_read_56 : decode cX6_read 56 = .ok (.aload_n 0, 1) := by decide +kernel
theorem dX6_read_57 : decode cX6_read 57 = .ok (.iload 6, 2) := by decide +kernel
theorem dX6_read_59 : decode cX6_read 59 = .ok (.invokevirtual 51, 3) := by decide +kernel
theorem dX6_read_62 : decode cX6_read 62 = .ok (.ifCond .eq 22, 3) := by decide +kernel
theorem dX6_read_65 : decode cX6_read 65 = .ok (.aload_n 0, 1) := by decide +kernel
theorem dX6_read_66 : decode cX6_read 66 = .ok (.iload 6, 2) := by decide +kernel
theorem dX6_read_68 : decode cX6_read 68 = .ok (.putfield 22, 3) := by decide +kernel
theorem dX6_read_71 : decode cX6_read 71 = .ok (.aload_n 0, 1) := by decide +kernel
theorem dX6_read_72 : decode cX6_read 72 = .ok (.aload 5, 2) := by decide +kernel
theorem dX6_read_74 : decode cX6_read 74 = .ok (.getfield 38, 3) := by decide +kernel
theorem dX6_read_77 : decode cX6_read 77 = .ok (.iload_n 1, 1) := by decide +kernel
theorem dX6_read_78 : decode cX6_read 78 = .ok (.invokevirtual 55, 3) := by decide +kernel
theorem dX6_read_81 : decode cX6_read 81 = .ok (.aload 5, 2) := by decide +kernel
theorem dX6_read_83 : decode cX6_read 83 = .ok (.areturn, 1) := by decide +kernel
theorem dX6_read_84 : decode cX6_read 84 = .ok (.aload_n 0, 1) := by decide +kernel
theorem dX6_read_85 : decode cX6_read 85 = .ok (.aload_n 0, 1) := by decide +kernel
theorem dX6_read_86 : decode cX6_read 86 = .ok (.getfield 22, 3) := by decide +kernel
theorem dX6_read_89 : decode cX6_read 89 = .ok (.iload 6, 2) := by decide +kernel
theorem dX6_read_91 : decode cX6_read 91 = .ok (.invokestatic 59, 3) := by decide +kernel
theorem dX6_read_94 : decode cX6_read 94 = .ok (.putfield 22, 3) := by decide +kernel
theorem dX6_read_97 : decode cX6_read 97 = .ok (.iinc 4 1, 3) := by decide +kernel
theorem dX6_read_100 : decode cX6_read 100 = .ok (.goto (-85), 3) := by decide +kernel
theorem dX6_read_103 : decode cX6_read 103 = .ok (.aconst_null, 1) := by decide +kernel
theorem dX6_read_104 : decode cX6_read 104 = .ok (.areturn, 1) := by decide +kernel
theorem dX6_canEndAt_0 : decode cX6_canEndAt 0 = .ok (.iload_n 1, 1) := by decide +kernel
theorem dX6_canEndAt_1 : decode cX6_canEndAt 1 = .ok (.aload_n 0, 1) := by decide +kernel
theorem dX6_canEndAt_2 : decode cX6_canEndAt 2 = .ok (.getfield 12, 3) := by decide +kernel
theorem dX6_canEndAt_5 : decode cX6_canEndAt 5 = .ok (.invokevirtual 30, 3) := by decide +kernel
theorem dX6_canEndAt_8 : decode cX6_canEndAt 8 = .ok (.if_icmp .ge 16, 3) := by decide +kernel
theorem dX6_canEndAt_11 : decode cX6_canEndAt 11 = .ok (.aload_n 0, 1) := by decide +kernel
theorem dX6_canEndAt_12 : decode cX6_canEndAt 12 = .ok (.getfield 12, 3) := by decide +kernel
theorem dX6_canEndAt_15 : decode cX6_canEndAt 15 = .ok (.iload_n 1, 1) := by decide +kernel
theorem dX6_canEndAt_16 : decode cX6_canEndAt 16 = .ok (.invokevirtual 65, 3) := by decide +kernel
theorem dX6_canEndAt_19 : decode cX6_canEndAt 19 = .ok (.bipush 59, 2) := by decide +kernel
theorem dX6_canEndAt_21 : decode cX6_canEndAt 21 = .ok (.if_icmp .ne 7, 3) := by decide +kernel
theorem dX6_canEndAt_24 : decode cX6_canEndAt 24 = .ok (.iconst 1, 1) := by decide +kernel
theorem dX6_canEndAt_25 : decode cX6_canEndAt 25 = .ok (.goto 4, 3) := by decide +kernel
theorem dX6_canEndAt_28 : decode cX6_canEndAt 28 = .ok (.iconst 0, 1) := by decide +kernel
theorem dX6_canEndAt_29 : decode cX6_canEndAt 29 = .ok (.ireturn, 1) := by decide +kernel
theorem dX6_countMatching_0 : decode cX6_countMatching 0 = .ok (.aload_n 1, 1) := by decide +kernel
theorem dX6_countMatching_1 : decode cX6_countMatching 1 = .ok (.invokevirtual 48, 3) := by decide +kernel
theorem dX6_countMatching_4 : decode cX6_countMatching 4 = .ok (.aload_n 0, 1) := by decide +kernel
theorem dX6_countMatching_5 : decode cX6_countMatching 5 = .ok (.getfield 12, 3) := by decide +kernel
theorem dX6_countMatching_8 : decode cX6_countMatching 8 = .ok (.invokevirtual 30, 3) := by decide +kernel
theorem dX6_countMatching_11 : decode cX6_countMatching 11 = .ok (.iload_n 2, 1) := by decide +kernel
theorem dX6_countMatching_12 : decode cX6_countMatching 12 = .ok (.isub, 1) := by decide +kernel
theorem dX6_countMatching_13 : decode cX6_countMatching 13 = .ok (.invokestatic 69, 3) := by decide +kernel
theorem dX6_countMatching_16 : decode cX6_countMatching 16 = .ok (.istore_n 3, 1) := by decide +kernel
theorem dX6_countMatching_17 : decode cX6_countMatching 17 = .ok (.iconst 0, 1) := by decide +kernel
theorem dX6_countMatching_18 : decode cX6_countMatching 18 = .ok (.istore 4, 2) := by decide +kernel
theorem dX6_countMatching_20 : decode cX6_countMatching 20 = .ok (.iload 4, 2) := by decide +kernel
theorem dX6_countMatching_22 : decode cX6_countMatching 22 = .ok (.iload_n 3, 1) := by decide +kernel
theorem dX6_countMatching_23 : decode cX6_countMatching 23 = .ok (.if_icmp .ge 32, 3) := by decide +kernel
theorem dX6_countMatching_26 : decode cX6_countMatching 26 = .ok (.aload_n 1, 1) := by decide +kernel
theorem dX6_countMatching_27 : decode cX6_countMatching 27 = .ok (.iload 4, 2) := by decide +kernel
theorem dX6_countMatching_29 : decode cX6_countMatching 29 = .ok (.invokevirtual 72, 3) := by decide +kernel
theorem dX6_countMatching_32 : decode cX6_countMatching 32 = .ok (.aload_n 0, 1) := by decide +kernel
theorem dX6_countMatching_33 : decode cX6_countMatching 33 = .ok (.getfield 12, 3) := by decide +kernel
theorem dX6_countMatching_36 : decode cX6_countMatching 36 = .ok (.iload_n 2, 1) := by decide +kernel
theorem dX6_countMatching_37 : decode cX6_countMatching 37 = .ok (.iload 4, 2) := by decide +kernel
theorem dX6_countMatching_39 : decode cX6_countMatching 39 = .ok (.iadd, 1) := by decide +kernel
theorem dX6_countMatching_40 : decode cX6_countMatching 40 = .ok (.invokevirtual 65, 3) := by decide +kernel
theorem dX6_countMatching_43 : decode cX6_countMatching 43 = .ok (.invokestatic 73, 3) := by decide +kernel
theorem dX6_countMatching_46 : decode cX6_countMatching 46 = .ok (.ifCond .eq 9, 3) := by decide +kernel
theorem dX6_countMatching_49 : decode cX6_countMatching 49 = .ok (.iinc 4 1, 3) := by decide +kernel
theorem dX6_countMatching_52 : decode cX6_countMatching 52 = .ok (.goto (-32), 3) := by decide +kernel
theorem dX6_countMatching_55 : decode cX6_countMatching 55 = .ok (.iload 4, 2) := by decide +kernel
theorem dX6_countMatching_57 : decode cX6_countMatching 57 = .ok (.ireturn, 1) := by decide +kernel
theorem dX6_isOf_0 : decode cX6_isOf 0 = .ok (.iload_n 0, 1) := by decide +kernel
theorem dX6_isOf_1 : decode cX6_isOf 1 = .ok (.lookupswitch 71 #[(35, 35), (38, 35), (126, 53)], 35) := by decide +kernel
theorem dX6_isOf_36 : decode cX6_isOf 36 = .ok (.iload_n 1, 1) := by decide +kernel
theorem dX6_isOf_37 : decode cX6_isOf 37 = .ok (.bipush 48, 2) := by decide +kernel
theorem dX6_isOf_39 : decode cX6_isOf 39 = .ok (.if_icmp .lt 13, 3) := by decide +kernel
theorem dX6_isOf_42 : decode cX6_isOf 42 = .ok (.iload_n 1, 1) := by decide +kernel
theorem dX6_isOf_43 : decode cX6_isOf 43 = .ok (.bipush 57, 2) := by decide +kernel
theorem dX6_isOf_45 : decode cX6_isOf 45 = .ok (.if_icmp .gt 7, 3) := by decide +kernel
theorem dX6_isOf_48 : decode cX6_isOf 48 = .ok (.iconst 1, 1) := by decide +kernel
theorem dX6_isOf_49 : decode cX6_isOf 49 = .ok (.goto 4, 3) := by decide +kernel
theorem dX6_isOf_52 : decode cX6_isOf 52 = .ok (.iconst 0, 1) := by decide +kernel
theorem dX6_isOf_53 : decode cX6_isOf 53 = .ok (.ireturn, 1) := by decide +kernel
theorem dX6_isOf_54 : decode cX6_isOf 54 = .ok (.iload_n 1, 1) := by decide +kernel
theorem dX6_isOf_55 : decode cX6_isOf 55 = .ok (.bipush 43, 2) := by decide +kernel
theorem dX6_isOf_57 : decode cX6_isOf 57 = .ok (.if_icmp .eq 9, 3) := by decide +kernel
theorem dX6_isOf_60 : decode cX6_isOf 60 = .ok (.iload_n 1, 1) := by decide +kernel
theorem dX6_isOf_61 : decode cX6_isOf 61 = .ok (.bipush 45, 2) := by decide +kernel
theorem dX6_isOf_63 : decode cX6_isOf 63 = .ok (.if_icmp .ne 7, 3) := by decide +kernel
theorem dX6_isOf_66 : decode cX6_isOf 66 = .ok (.iconst 1, 1) := by decide +kernel
theorem dX6_isOf_67 : decode cX6_isOf 67 = .ok (.goto 4, 3) := by decide +kernel
theorem dX6_isOf_70 : decode cX6_isOf 70 = .ok (.iconst 0, 1) := by decide +kernel
theorem dX6_isOf_71 : decode cX6_isOf 71 = .ok (.ireturn, 1) := by decide +kernel
theorem dX6_isOf_72 : decode cX6_isOf 72 = .ok (.iload_n 1, 1) := by decide +kernel
theorem dX6_isOf_73 : decode cX6_isOf 73 = .ok (.iload_n 0, 1) := by decide +kernel
theorem dX6_isOf_74 : decode cX6_isOf 74 = .ok (.if_icmp .ne 7, 3) := by decide +kernel
theorem dX6_isOf_77 : decode cX6_isOf 77 = .ok (.iconst 1, 1) := by decide +kernel
theorem dX6_isOf_78 : decode cX6_isOf 78 = .ok (.goto 4, 3) := by decide +kernel
theorem dX6_isOf_81 : decode cX6_isOf 81 = .ok (.iconst 0, 1) := by decide +kernel
theorem dX6_isOf_82 : decode cX6_isOf 82 = .ok (.ireturn, 1) := by decide +kernel
theorem dX6_readNumbers_0 : decode cX6_readNumbers 0 = .ok (.aload_n 0, 1) := by decide +kernel
theorem dX6_readNumbers_1 : decode cX6_readNumbers 1 = .ok (.getfield 18, 3) := by decide +kernel
theorem dX6_readNumbers_4 : decode cX6_readNumbers 4 = .ok (.iconst 0, 1) := by decide +kernel
theorem dX6_readNumbers_5 : decode cX6_readNumbers 5 = .ok (.iconst 1, 1) := by decide +kernel
theorem dX6_readNumbers_6 : decode cX6_readNumbers 6 = .ok (.iastore, 1) := by decide +kernel
theorem dX6_readNumbers_7 : decode cX6_readNumbers 7 = .ok (.iconst 0, 1) := by decide +kernel
theorem dX6_readNumbers_8 : decode cX6_readNumbers 8 = .ok (.istore_n 3, 1) := by decide +kernel
theorem dX6_readNumbers_9 : decode cX6_readNumbers 9 = .ok (.iconst 1, 1) := by decide +kernel
theorem dX6_readNumbers_10 : decode cX6_readNumbers 10 = .ok (.istore 4, 2) := by decide +kernel
theorem dX6_readNumbers_12 : decode cX6_readNumbers 12 = .ok (.iconst 0, 1) := by decide +kernel
theorem dX6_readNumbers_13 : decode cX6_readNumbers 13 = .ok (.istore 5, 2) := by decide +kernel
theorem dX6_readNumbers_15 : decode cX6_readNumbers 15 = .ok (.iload 5, 2) := by decide +kernel
theorem dX6_readNumbers_17 : decode cX6_readNumbers 17 = .ok (.aload_n 1, 1) := by decide +kernel
theorem dX6_readNumbers_18 : decode cX6_readNumbers 18 = .ok (.invokevirtual 48, 3) := by decide +kernel
theorem dX6_readNumbers_21 : decode cX6_readNumbers 21 = .ok (.if_icmp .ge 122, 3) := by decide +kernel
theorem dX6_readNumbers_24 : decode cX6_readNumbers 24 = .ok (.aload_n 1, 1) := by decide +kernel
theorem dX6_readNumbers_25 : decode cX6_readNumbers 25 = .ok (.iload 5, 2) := by decide +kernel
theorem dX6_readNumbers_27 : decode cX6_readNumbers 27 = .ok (.invokevirtual 72, 3) := by decide +kernel
theorem dX6_readNumbers_30 : decode cX6_readNumbers 30 = .ok (.istore 6, 2) := by decide +kernel
theorem dX6_readNumbers_32 : decode cX6_readNumbers 32 = .ok (.aload_n 0, 1) := by decide +kernel
theorem dX6_readNumbers_33 : decode cX6_readNumbers 33 = .ok (.getfield 12, 3) := by decide +kernel
theorem dX6_readNumbers_36 : decode cX6_readNumbers 36 = .ok (.iload_n 2, 1) := by decide +kernel
theorem dX6_readNumbers_37 : decode cX6_readNumbers 37 = .ok (.iload 5, 2) := by decide +kernel
theorem dX6_readNumbers_39 : decode cX6_readNumbers 39 = .ok (.iadd, 1) := by decide +kernel
theorem dX6_readNumbers_40 : decode cX6_readNumbers 40 = .ok (.invokevirtual 65, 3) := by decide +kernel
theorem dX6_readNumbers_43 : decode cX6_readNumbers 43 = .ok (.istore 7, 2) := by decide +kernel
theorem dX6_readNumbers_45 : decode cX6_readNumbers 45 = .ok (.iload 6, 2) := by decide +kernel
theorem dX6_readNumbers_47 : decode cX6_readNumbers 47 = .ok (.bipush 126, 2) := by decide +kernel
theorem dX6_readNumbers_49 : decode cX6_readNumbers 49 = .ok (.if_icmp .ne 20, 3) := by decide +kernel
theorem dX6_readNumbers_52 : decode cX6_readNumbers 52 = .ok (.iload 7, 2) := by decide +kernel
theorem dX6_readNumbers_54 : decode cX6_readNumbers 54 = .ok (.bipush 45, 2) := by decide +kernel
theorem dX6_readNumbers_56 : decode cX6_readNumbers 56 = .ok (.if_icmp .ne 7, 3) := by decide +kernel
theorem dX6_readNumbers_59 : decode cX6_readNumbers 59 = .ok (.iconst (-1), 1) := by decide +kernel
theorem dX6_readNumbers_60 : decode cX6_readNumbers 60 = .ok (.goto 4, 3) := by decide +kernel
theorem dX6_readNumbers_63 : decode cX6_readNumbers 63 = .ok (.iconst 1, 1) := by decide +kernel
theorem dX6_readNumbers_64 : decode cX6_readNumbers 64 = .ok (.istore 4, 2) := by decide +kernel
theorem dX6_readNumbers_66 : decode cX6_readNumbers 66 = .ok (.goto 71, 3) := by decide +kernel
theorem dX6_readNumbers_69 : decode cX6_readNumbers 69 = .ok (.iload 6, 2) := by decide +kernel
theorem dX6_readNumbers_71 : decode cX6_readNumbers 71 = .ok (.bipush 35, 2) := by decide +kernel
theorem dX6_readNumbers_73 : decode cX6_readNumbers 73 = .ok (.if_icmp .ne 28, 3) := by decide +kernel
theorem dX6_readNumbers_76 : decode cX6_readNumbers 76 = .ok (.iload_n 3, 1) := by decide +kernel
theorem dX6_readNumbers_77 : decode cX6_readNumbers 77 = .ok (.iconst 4, 1) := by decide +kernel
theorem dX6_readNumbers_78 : decode cX6_readNumbers 78 = .ok (.if_icmp .ge 23, 3) := by decide +kernel
theorem dX6_readNumbers_81 : decode cX6_readNumbers 81 = .ok (.aload_n 0, 1) := by decide +kernel
theorem dX6_readNumbers_82 : decode cX6_readNumbers 82 = .ok (.getfield 18, 3) := by decide +kernel
theorem dX6_readNumbers_85 : decode cX6_readNumbers 85 = .ok (.iload_n 3, 1) := by decide +kernel
theorem dX6_readNumbers_86 : decode cX6_readNumbers 86 = .ok (.iload 4, 2) := by decide +kernel
theorem dX6_readNumbers_88 : decode cX6_readNumbers 88 = .ok (.iload 7, 2) := by decide +kernel
theorem dX6_readNumbers_90 : decode cX6_readNumbers 90 = .ok (.bipush 48, 2) := by decide +kernel
theorem dX6_readNumbers_92 : decode cX6_readNumbers 92 = .ok (.isub, 1) := by decide +kernel
theorem dX6_readNumbers_93 : decode cX6_readNumbers 93 = .ok (.imul, 1) := by decide +kernel
theorem dX6_readNumbers_94 : decode cX6_readNumbers 94 = .ok (.iastore, 1) := by decide +kernel
theorem dX6_readNumbers_95 : decode cX6_readNumbers 95 = .ok (.iinc 3 1, 3) := by decide +kernel
theorem dX6_readNumbers_98 : decode cX6_readNumbers 98 = .ok (.goto 39, 3) := by decide +kernel
theorem dX6_readNumbers_101 : decode cX6_readNumbers 101 = .ok (.iload 6, 2) := by decide +kernel
theorem dX6_readNumbers_103 : decode cX6_readNumbers 103 = .ok (.bipush 38, 2) := by decide +kernel
theorem dX6_readNumbers_105 : decode cX6_readNumbers 105 = .ok (.if_icmp .ne 32, 3) := by decide +kernel
theorem dX6_readNumbers_108 : decode cX6_readNumbers 108 = .ok (.iload_n 3, 1) := by decide +kernel
theorem dX6_readNumbers_109 : decode cX6_readNumbers 109 = .ok (.ifCond .le 28, 3) := by decide +kernel
theorem dX6_readNumbers_112 : decode cX6_readNumbers 112 = .ok (.aload_n 0, 1) := by decide +kernel
theorem dX6_readNumbers_113 : decode cX6_readNumbers 113 = .ok (.getfield 18, 3) := by decide +kernel
theorem dX6_readNumbers_116 : decode cX6_readNumbers 116 = .ok (.iload_n 3, 1) := by decide +kernel
theorem dX6_readNumbers_117 : decode cX6_readNumbers 117 = .ok (.iconst 1, 1) := by decide +kernel
theorem dX6_readNumbers_118 : decode cX6_readNumbers 118 = .ok (.isub, 1) := by decide +kernel
theorem dX6_readNumbers_119 : decode cX6_readNumbers 119 = .ok (.aload_n 0, 1) := by decide +kernel
theorem dX6_readNumbers_120 : decode cX6_readNumbers 120 = .ok (.getfield 18, 3) := by decide +kernel
theorem dX6_readNumbers_123 : decode cX6_readNumbers 123 = .ok (.iload_n 3, 1) := by decide +kernel
theorem dX6_readNumbers_124 : decode cX6_readNumbers 124 = .ok (.iconst 1, 1) := by decide +kernel
theorem dX6_readNumbers_125 : decode cX6_readNumbers 125 = .ok (.isub, 1) := by decide +kernel
theorem dX6_readNumbers_126 : decode cX6_readNumbers 126 = .ok (.iaload, 1) := by decide +kernel
theorem dX6_readNumbers_127 : decode cX6_readNumbers 127 = .ok (.bipush 10, 2) := by decide +kernel
theorem dX6_readNumbers_129 : decode cX6_readNumbers 129 = .ok (.imul, 1) := by decide +kernel
theorem dX6_readNumbers_130 : decode cX6_readNumbers 130 = .ok (.iload 7, 2) := by decide +kernel
theorem dX6_readNumbers_132 : decode cX6_readNumbers 132 = .ok (.iadd, 1) := by decide +kernel
theorem dX6_readNumbers_133 : decode cX6_readNumbers 133 = .ok (.bipush 48, 2) := by decide +kernel
theorem dX6_readNumbers_135 : decode cX6_readNumbers 135 = .ok (.isub, 1) := by decide +kernel
theorem dX6_readNumbers_136 : decode cX6_readNumbers 136 = .ok (.iastore, 1) := by decide +kernel
theorem dX6_readNumbers_137 : decode cX6_readNumbers 137 = .ok (.iinc 5 1, 3) := by decide +kernel
theorem dX6_readNumbers_140 : decode cX6_readNumbers 140 = .ok (.goto (-125), 3) := by decide +kernel
theorem dX6_readNumbers_143 : decode cX6_readNumbers 143 = .ok (.return_, 1) := by decide +kernel
theorem dX7_init_0 : decode cX7_init 0 = .ok (.aload_n 0, 1) := by decide +kernel
theorem dX7_init_1 : decode cX7_init 1 = .ok (.invokespecial 1, 3) := by decide +kernel
theorem dX7_init_4 : decode cX7_init 4 = .ok (.aload_n 0, 1) := by decide +kernel
theorem dX7_init_5 : decode cX7_init 5 = .ok (.new 7, 3) := by decide +kernel
theorem dX7_init_8 : decode cX7_init 8 = .ok (.dup, 1) := by decide +kernel
theorem dX7_init_9 : decode cX7_init 9 = .ok (.invokespecial 9, 3) := by decide +kernel
theorem dX7_init_12 : decode cX7_init 12 = .ok (.putfield 10, 3) := by decide +kernel
theorem dX7_init_15 : decode cX7_init 15 = .ok (.aload_n 0, 1) := by decide +kernel
theorem dX7_init_16 : decode cX7_init 16 = .ok (.new 7, 3) := by decide +kernel
theorem dX7_init_19 : decode cX7_init 19 = .ok (.dup, 1) := by decide +kernel
theorem dX7_init_20 : decode cX7_init 20 = .ok (.invokespecial 9, 3) := by decide +kernel
theorem dX7_init_23 : decode cX7_init 23 = .ok (.putfield 16, 3) := by decide +kernel
theorem dX7_init_26 : decode cX7_init 26 = .ok (.aload_n 0, 1) := by decide +kernel
theorem dX7_init_27 : decode cX7_init 27 = .ok (.new 7, 3) := by decide +kernel
theorem dX7_init_30 : decode cX7_init 30 = .ok (.dup, 1) := by decide +kernel
theorem dX7_init_31 : decode cX7_init 31 = .ok (.invokespecial 9, 3) := by decide +kernel
theorem dX7_init_34 : decode cX7_init 34 = .ok (.putfield 19, 3) := by decide +kernel
theorem dX7_init_37 : decode cX7_init 37 = .ok (.aload_n 0, 1) := by decide +kernel
theorem dX7_init_38 : decode cX7_init 38 = .ok (.new 22, 3) := by decide +kernel
theorem dX7_init_41 : decode cX7_init 41 = .ok (.dup, 1) := by decide +kernel
theorem dX7_init_42 : decode cX7_init 42 = .ok (.invokespecial 24, 3) := by decide +kernel
theorem dX7_init_45 : decode cX7_init 45 = .ok (.putfield 25, 3) := by decide +kernel
theorem dX7_init_48 : decode cX7_init 48 = .ok (.aload_n 0, 1) := by decide +kernel
theorem dX7_init_49 : decode cX7_init 49 = .ok (.new 29, 3) := by decide +kernel
theorem dX7_init_52 : decode cX7_init 52 = .ok (.dup, 1) := by decide +kernel
theorem dX7_init_53 : decode cX7_init 53 = .ok (.invokespecial 31, 3) := by decide +kernel
theorem dX7_init_56 : decode cX7_init 56 = .ok (.putfield 32, 3) := by decide +kernel
theorem dX7_init_59 : decode cX7_init 59 = .ok (.aload_n 0, 1) := by decide +kernel
theorem dX7_init_60 : decode cX7_init 60 = .ok (.new 36, 3) := by decide +kernel
theorem dX7_init_63 : decode cX7_init 63 = .ok (.dup, 1) := by decide +kernel
theorem dX7_init_64 : decode cX7_init 64 = .ok (.invokespecial 38, 3) := by decide +kernel
theorem dX7_init_67 : decode cX7_init 67 = .ok (.putfield 39, 3) := by decide +kernel
theorem dX7_init_70 : decode cX7_init 70 = .ok (.aload_n 0, 1) := by decide +kernel
theorem dX7_init_71 : decode cX7_init 71 = .ok (.iconst 0, 1) := by decide +kernel
theorem dX7_init_72 : decode cX7_init 72 = .ok (.putfield 43, 3) := by decide +kernel
theorem dX7_init_75 : decode cX7_init 75 = .ok (.aload_n 0, 1) := by decide +kernel
theorem dX7_init_76 : decode cX7_init 76 = .ok (.iconst (-1), 1) := by decide +kernel
theorem dX7_init_77 : decode cX7_init 77 = .ok (.putfield 47, 3) := by decide +kernel
theorem dX7_init_80 : decode cX7_init 80 = .ok (.aload_n 0, 1) := by decide +kernel
theorem dX7_init_81 : decode cX7_init 81 = .ok (.iconst (-1), 1) := by decide +kernel
theorem dX7_init_82 : decode cX7_init 82 = .ok (.putfield 51, 3) := by decide +kernel
theorem dX7_init_85 : decode cX7_init 85 = .ok (.return_, 1) := by decide +kernel
theorem dX7_addDoor_0 : decode cX7_addDoor 0 = .ok (.aload_n 0, 1) := by decide +kernel
theorem dX7_addDoor_1 : decode cX7_addDoor 1 = .ok (.getstatic 54, 3) := by decide +kernel
theorem dX7_addDoor_4 : decode cX7_addDoor 4 = .ok (.iload_n 1, 1) := by decide +kernel
theorem dX7_addDoor_5 : decode cX7_addDoor 5 = .ok (.iload_n 2, 1) := by decide +kernel
theorem dX7_addDoor_6 : decode cX7_addDoor 6 = .ok (.iload_n 3, 1) := by decide +kernel
theorem dX7_addDoor_7 : decode cX7_addDoor 7 = .ok (.iconst 0, 1) := by decide +kernel
theorem dX7_addDoor_8 : decode cX7_addDoor 8 = .ok (.invokevirtual 60, 3) := by decide +kernel
theorem dX7_addDoor_11 : decode cX7_addDoor 11 = .ok (.ireturn, 1) := by decide +kernel
theorem dX7_turn_0 : decode cX7_turn 0 = .ok (.aload_n 0, 1) := by decide +kernel
theorem dX7_turn_1 : decode cX7_turn 1 = .ok (.getstatic 64, 3) := by decide +kernel
theorem dX7_turn_4 : decode cX7_turn 4 = .ok (.iload_n 1, 1) := by decide +kernel
theorem dX7_turn_5 : decode cX7_turn 5 = .ok (.iload_n 2, 1) := by decide +kernel
theorem dX7_turn_6 : decode cX7_turn 6 = .ok (.iload_n 3, 1) := by decide +kernel
theorem dX7_turn_7 : decode cX7_turn 7 = .ok (.iconst 0, 1) := by decide +kernel
theorem dX7_turn_8 : decode cX7_turn 8 = .ok (.invokevirtual 60, 3) := by decide +kernel
theorem dX7_turn_11 : decode cX7_turn 11 = .ok (.ireturn, 1) := by decide +kernel
theorem dX7_tryLock_0 : decode cX7_tryLock 0 = .ok (.aload_n 0, 1) := by decide +kernel
theorem dX7_tryLock_1 : decode cX7_tryLock 1 = .ok (.getstatic 67, 3) := by decide +kernel
theorem dX7_tryLock_4 : decode cX7_tryLock 4 = .ok (.iload_n 1, 1) := by decide +kernel
theorem dX7_tryLock_5 : decode cX7_tryLock 5 = .ok (.iconst 0, 1) := by decide +kernel
theorem dX7_tryLock_6 : decode cX7_tryLock 6 = .ok (.iconst 0, 1) := by decide +kernel
theorem dX7_tryLock_7 : decode cX7_tryLock 7 = .ok (.iconst 0, 1) := by decide +kernel
theorem dX7_tryLock_8 : decode cX7_tryLock 8 = .ok (.invokevirtual 60, 3) := by decide +kernel
theorem dX7_tryLock_11 : decode cX7_tryLock 11 = .ok (.iconst 1, 1) := by decide +kernel
theorem dX7_tryLock_12 : decode cX7_tryLock 12 = .ok (.if_icmp .ne 7, 3) := by decide +kernel
theorem dX7_tryLock_15 : decode cX7_tryLock 15 = .ok (.iconst 1, 1) := by decide +kernel
theorem dX7_tryLock_16 : decode cX7_tryLock 16 = .ok (.goto 4, 3) := by decide +kernel
theorem dX7_tryLock_19 : decode cX7_tryLock 19 = .ok (.iconst 0, 1) := by decide +kernel
theorem dX7_tryLock_20 : decode cX7_tryLock 20 = .ok (.ireturn, 1) := by decide +kernel
theorem dX7_shut_0 : decode cX7_shut 0 = .ok (.aload_n 0, 1) := by decide +kernel
theorem dX7_shut_1 : decode cX7_shut 1 = .ok (.getstatic 70, 3) := by decide +kernel
theorem dX7_shut_4 : decode cX7_shut 4 = .ok (.iload_n 1, 1) := by decide +kernel
theorem dX7_shut_5 : decode cX7_shut 5 = .ok (.iconst 0, 1) := by decide +kernel
theorem dX7_shut_6 : decode cX7_shut 6 = .ok (.iconst 0, 1) := by decide +kernel
theorem dX7_shut_7 : decode cX7_shut 7 = .ok (.iconst 0, 1) := by decide +kernel
theorem dX7_shut_8 : decode cX7_shut 8 = .ok (.invokevirtual 60, 3) := by decide +kernel
theorem dX7_shut_11 : decode cX7_shut 11 = .ok (.ireturn, 1) := by decide +kernel
theorem dX7_setCombination_0 : decode cX7_setCombination 0 = .ok (.aload_n 0, 1) := by decide +kernel
theorem dX7_setCombination_1 : decode cX7_setCombination 1 = .ok (.getstatic 73, 3) := by decide +kernel
theorem dX7_setCombination_4 : decode cX7_setCombination 4 = .ok (.iload_n 1, 1) := by decide +kernel
theorem dX7_setCombination_5 : decode cX7_setCombination 5 = .ok (.iload_n 2, 1) := by decide +kernel
theorem dX7_setCombination_6 : decode cX7_setCombination 6 = .ok (.iload_n 3, 1) := by decide +kernel
theorem dX7_setCombination_7 : decode cX7_setCombination 7 = .ok (.iload 4, 2) := by decide +kernel
theorem dX7_setCombination_9 : decode cX7_setCombination 9 = .ok (.invokevirtual 60, 3) := by decide +kernel
theorem dX7_setCombination_12 : decode cX7_setCombination 12 = .ok (.ireturn, 1) := by decide +kernel
theorem dX7_setDamp_0 : decode cX7_setDamp 0 = .ok (.aload_n 0, 1) := by decide +kernel
theorem dX7_setDamp_1 : decode cX7_setDamp 1 = .ok (.getstatic 76, 3) := by decide +kernel
theorem dX7_setDamp_4 : decode cX7_setDamp 4 = .ok (.iload_n 1, 1) := by decide +kernel
theorem dX7_setDamp_5 : decode cX7_setDamp 5 = .ok (.iconst 0, 1) := by decide +kernel
theorem dX7_setDamp_6 : decode cX7_setDamp 6 = .ok (.iconst 0, 1) := by decide +kernel
theorem dX7_setDamp_7 : decode cX7_setDamp 7 = .ok (.iconst 0, 1) := by decide +kernel
theorem dX7_setDamp_8 : decode cX7_setDamp 8 = .ok (.invokevirtual 60, 3) := by decide +kernel
theorem dX7_setDamp_11 : decode cX7_setDamp 11 = .ok (.ireturn, 1) := by decide +kernel
theorem dX7_bake_0 : decode cX7_bake 0 = .ok (.aload_n 0, 1) := by decide +kernel
theorem dX7_bake_1 : decode cX7_bake 1 = .ok (.getstatic 79, 3) := by decide +kernel
theorem dX7_bake_4 : decode cX7_bake 4 = .ok (.iload_n 1, 1) := by decide +kernel
theorem dX7_bake_5 : decode cX7_bake 5 = .ok (.iload_n 2, 1) := by decide +kernel
theorem dX7_bake_6 : decode cX7_bake 6 = .ok (.iconst 0, 1) := by decide +kernel
theorem dX7_bake_7 : decode cX7_bake 7 = .ok (.iconst 0, 1) := by decide +kernel
theorem dX7_bake_8 : decode cX7_bake 8 = .ok (.invokevirtual 60, 3) := by decide +kernel
theorem dX7_bake_11 : decode cX7_bake 11 = .ok (.ireturn, 1) := by decide +kernel
theorem dX7_passHours_0 : decode cX7_passHours 0 = .ok (.aload_n 0, 1) := by decide +kernel
theorem dX7_passHours_1 : decode cX7_passHours 1 = .ok (.getstatic 82, 3) := by decide +kernel
theorem dX7_passHours_4 : decode cX7_passHours 4 = .ok (.iload_n 1, 1) := by decide +kernel
theorem dX7_passHours_5 : decode cX7_passHours 5 = .ok (.iconst 0, 1) := by decide +kernel
theorem dX7_passHours_6 : decode cX7_passHours 6 = .ok (.iconst 0, 1) := by decide +kernel
theorem dX7_passHours_7 : decode cX7_passHours 7 = .ok (.iconst 0, 1) := by decide +kernel
theorem dX7_passHours_8 : decode cX7_passHours 8 = .ok (.invokevirtual 60, 3) := by decide +kernel
theorem dX7_passHours_11 : decode cX7_passHours 11 = .ok (.ireturn, 1) := by decide +kernel
theorem dX7_change_0 : decode cX7_change 0 = .ok (.aload_n 0, 1) := by decide +kernel
theorem dX7_change_1 : decode cX7_change 1 = .ok (.getfield 10, 3) := by decide +kernel
theorem dX7_change_4 : decode cX7_change 4 = .ok (.aload_n 1, 1) := by decide +kernel
theorem dX7_change_5 : decode cX7_change 5 = .ok (.iload_n 2, 1) := by decide +kernel
theorem dX7_change_6 : decode cX7_change 6 = .ok (.iload_n 3, 1) := by decide +kernel
theorem dX7_change_7 : decode cX7_change 7 = .ok (.iload 4, 2) := by decide +kernel
theorem dX7_change_9 : decode cX7_change 9 = .ok (.iload 5, 2) := by decide +kernel
theorem dX7_change_11 : decode cX7_change 11 = .ok (.invokevirtual 85, 3) := by decide +kernel
theorem dX7_change_14 : decode cX7_change 14 = .ok (.invokestatic 89, 3) := by decide +kernel
theorem dX7_change_17 : decode cX7_change 17 = .ok (.aload_n 0, 1) := by decide +kernel
theorem dX7_change_18 : decode cX7_change 18 = .ok (.getfield 25, 3) := by decide +kernel
theorem dX7_change_21 : decode cX7_change 21 = .ok (.aload_n 0, 1) := by decide +kernel
theorem dX7_change_22 : decode cX7_change 22 = .ok (.getfield 10, 3) := by decide +kernel
theorem dX7_change_25 : decode cX7_change 25 = .ok (.invokevirtual 93, 3) := by decide +kernel
theorem dX7_change_28 : decode cX7_change 28 = .ok (.aload_n 0, 1) := by decide +kernel
theorem dX7_change_29 : decode cX7_change 29 = .ok (.getfield 10, 3) := by decide +kernel
theorem dX7_change_32 : decode cX7_change 32 = .ok (.aload_n 1, 1) := by decide +kernel
theorem dX7_change_33 : decode cX7_change 33 = .ok (.iload_n 2, 1) := by decide +kernel
theorem dX7_change_34 : decode cX7_change 34 = .ok (.iload_n 3, 1) := by decide +kernel
theorem dX7_change_35 : decode cX7_change 35 = .ok (.iload 4, 2) := by decide +kernel
theorem dX7_change_37 : decode cX7_change 37 = .ok (.iload 5, 2) := by decide +kernel
theorem dX7_change_39 : decode cX7_change 39 = .ok (.invokevirtual 97, 3) := by decide +kernel
theorem dX7_change_42 : decode cX7_change 42 = .ok (.ireturn, 1) := by decide +kernel
theorem dX7_throwFor_0 : decode cX7_throwFor 0 = .ok (.getstatic 100, 3) := by decide +kernel
theorem dX7_throwFor_3 : decode cX7_throwFor 3 = .ok (.aload_n 0, 1) := by decide +kernel
theorem dX7_throwFor_4 : decode cX7_throwFor 4 = .ok (.invokevirtual 106, 3) := by decide +kernel
theorem dX7_throwFor_7 : decode cX7_throwFor 7 = .ok (.iaload, 1) := by decide +kernel
theorem dX7_throwFor_8 : decode cX7_throwFor 8 = .ok (.tableswitch 72 1 4 #[32, 42, 52, 62], 32) := by decide +kernel
theorem dX7_throwFor_40 : decode cX7_throwFor 40 = .ok (.new 112, 3) := by decide +kernel
theorem dX7_throwFor_43 : decode cX7_throwFor 43 = .ok (.dup, 1) := by decide +kernel
theorem dX7_throwFor_44 : decode cX7_throwFor 44 = .ok (.ldc 114, 2) := by decide +kernel
theorem dX7_throwFor_46 : decode cX7_throwFor 46 = .ok (.invokespecial 116, 3) := by decide +kernel
theorem dX7_throwFor_49 : decode cX7_throwFor 49 = .ok (.athrow, 1) := by decide +kernel
theorem dX7_throwFor_50 : decode cX7_throwFor 50 = .ok (.new 119, 3) := by decide +kernel
theorem dX7_throwFor_53 : decode cX7_throwFor 53 = .ok (.dup, 1) := by decide +kernel
theorem dX7_throwFor_54 : decode cX7_throwFor 54 = .ok (.ldc 121, 2) := by decide +kernel
theorem dX7_throwFor_56 : decode cX7_throwFor 56 = .ok (.invokespecial 123, 3) := by decide +kernel
theorem dX7_throwFor_59 : decode cX7_throwFor 59 = .ok (.athrow, 1) := by decide +kernel
theorem dX7_throwFor_60 : decode cX7_throwFor 60 = .ok (.new 124, 3) := by decide +kernel
theorem dX7_throwFor_63 : decode cX7_throwFor 63 = .ok (.dup, 1) := by decide +kernel
theorem dX7_throwFor_64 : decode cX7_throwFor 64 = .ok (.ldc 126, 2) := by decide +kernel
theorem dX7_throwFor_66 : decode cX7_throwFor 66 = .ok (.invokespecial 128, 3) := by decide +kernel
theorem dX7_throwFor_69 : decode cX7_throwFor 69 = .ok (.athrow, 1) := by decide +kernel
theorem dX7_throwFor_70 : decode cX7_throwFor 70 = .ok (.new 129, 3) := by decide +kernel
theorem dX7_throwFor_73 : decode cX7_throwFor 73 = .ok (.dup, 1) := by decide +kernel
theorem dX7_throwFor_74 : decode cX7_throwFor 74 = .ok (.ldc 131, 2) := by decide +kernel
theorem dX7_throwFor_76 : decode cX7_throwFor 76 = .ok (.invokespecial 133, 3) := by decide +kernel
theorem dX7_throwFor_79 : decode cX7_throwFor 79 = .ok (.athrow, 1) := by decide +kernel
theorem dX7_throwFor_80 : decode cX7_throwFor 80 = .ok (.return_, 1) := by decide +kernel
theorem dX7_doorCount_0 : decode cX7_doorCount 0 = .ok (.aload_n 0, 1) := by decide +kernel
theorem dX7_doorCount_1 : decode cX7_doorCount 1 = .ok (.getfield 10, 3) := by decide +kernel
theorem dX7_doorCount_4 : decode cX7_doorCount 4 = .ok (.getfield 134, 3) := by decide +kernel
theorem dX7_doorCount_7 : decode cX7_doorCount 7 = .ok (.ireturn, 1) := by decide +kernel
theorem dX7_dial_0 : decode cX7_dial 0 = .ok (.aload_n 0, 1) := by decide +kernel
theorem dX7_dial_1 : decode cX7_dial 1 = .ok (.iload_n 1, 1) := by decide +kernel
theorem dX7_dial_2 : decode cX7_dial 2 = .ok (.invokevirtual 137, 3) := by decide +kernel
theorem dX7_dial_5 : decode cX7_dial 5 = .ok (.astore_n 3, 1) := by decide +kernel
theorem dX7_dial_6 : decode cX7_dial 6 = .ok (.iload_n 2, 1) := by decide +kernel
theorem dX7_dial_7 : decode cX7_dial 7 = .ok (.invokestatic 141, 3) := by decide +kernel
theorem dX7_dial_10 : decode cX7_dial 10 = .ok (.aload_n 3, 1) := by decide +kernel
theorem dX7_dial_11 : decode cX7_dial 11 = .ok (.getfield 145, 3) := by decide +kernel
theorem dX7_dial_14 : decode cX7_dial 14 = .ok (.iload_n 2, 1) := by decide +kernel
theorem dX7_dial_15 : decode cX7_dial 15 = .ok (.iaload, 1) := by decide +kernel
theorem dX7_dial_16 : decode cX7_dial 16 = .ok (.ireturn, 1) := by decide +kernel
theorem dX7_combination_0 : decode cX7_combination 0 = .ok (.aload_n 0, 1) := by decide +kernel
theorem dX7_combination_1 : decode cX7_combination 1 = .ok (.iload_n 1, 1) := by decide +kernel
theorem dX7_combination_2 : decode cX7_combination 2 = .ok (.invokevirtual 137, 3) := by decide +kernel
theorem dX7_combination_5 : decode cX7_combination 5 = .ok (.astore_n 3, 1) := by decide +kernel
theorem dX7_combination_6 : decode cX7_combination 6 = .ok (.iload_n 2, 1) := by decide +kernel
theorem dX7_combination_7 : decode cX7_combination 7 = .ok (.invokestatic 141, 3) := by decide +kernel
theorem dX7_combination_10 : decode cX7_combination 10 = .ok (.aload_n 3, 1) := by decide +kernel
theorem dX7_combination_11 : decode cX7_combination 11 = .ok (.getfield 150, 3) := by decide +kernel
theorem dX7_combination_14 : decode cX7_combination 14 = .ok (.iload_n 2, 1) := by decide +kernel
theorem dX7_combination_15 : decode cX7_combination 15 = .ok (.iaload, 1) := by decide +kernel
theorem dX7_combination_16 : decode cX7_combination 16 = .ok (.ireturn, 1) := by decide +kernel
theorem dX7_isOpen_0 : decode cX7_isOpen 0 = .ok (.aload_n 0, 1) := by decide +kernel
theorem dX7_isOpen_1 : decode cX7_isOpen 1 = .ok (.iload_n 1, 1) := by decide +kernel
theorem dX7_isOpen_2 : decode cX7_isOpen 2 = .ok (.invokevirtual 137, 3) := by decide +kernel
theorem dX7_isOpen_5 : decode cX7_isOpen 5 = .ok (.getfield 153, 3) := by decide +kernel
theorem dX7_isOpen_8 : decode cX7_isOpen 8 = .ok (.ireturn, 1) := by decide +kernel
theorem dX7_isBroken_0 : decode cX7_isBroken 0 = .ok (.aload_n 0, 1) := by decide +kernel
theorem dX7_isBroken_1 : decode cX7_isBroken 1 = .ok (.iload_n 1, 1) := by decide +kernel
theorem dX7_isBroken_2 : decode cX7_isBroken 2 = .ok (.invokevirtual 137, 3) := by decide +kernel
theorem dX7_isBroken_5 : decode cX7_isBroken 5 = .ok (.invokevirtual 156, 3) := by decide +kernel
theorem dX7_isBroken_8 : decode cX7_isBroken 8 = .ok (.ireturn, 1) := by decide +kernel
theorem dX7_crumbs_0 : decode cX7_crumbs 0 = .ok (.aload_n 0, 1) := by decide +kernel
theorem dX7_crumbs_1 : decode cX7_crumbs 1 = .ok (.iload_n 1, 1) := by decide +kernel
theorem dX7_crumbs_2 : decode cX7_crumbs 2 = .ok (.invokevirtual 137, 3) := by decide +kernel
theorem dX7_crumbs_5 : decode cX7_crumbs 5 = .ok (.getfield 160, 3) := by decide +kernel
theorem dX7_crumbs_8 : decode cX7_crumbs 8 = .ok (.ireturn, 1) := by decide +kernel
theorem dX7_play_0 : decode cX7_play 0 = .ok (.aload_n 0, 1) := by decide +kernel
theorem dX7_play_1 : decode cX7_play 1 = .ok (.iload_n 1, 1) := by decide +kernel
theorem dX7_play_2 : decode cX7_play 2 = .ok (.invokevirtual 137, 3) := by decide +kernel
theorem dX7_play_5 : decode cX7_play 5 = .ok (.invokevirtual 163, 3) := by decide +kernel
theorem dX7_play_8 : decode cX7_play 8 = .ok (.ireturn, 1) := by decide +kernel
theorem dX7_fittingDials_0 : decode cX7_fittingDials 0 = .ok (.aload_n 0, 1) := by decide +kernel
theorem dX7_fittingDials_1 : decode cX7_fittingDials 1 = .ok (.iload_n 1, 1) := by decide +kernel
theorem dX7_fittingDials_2 : decode cX7_fittingDials 2 = .ok (.invokevirtual 137, 3) := by decide +kernel
theorem dX7_fittingDials_5 : decode cX7_fittingDials 5 = .ok (.invokevirtual 166, 3) := by decide +kernel
theorem dX7_fittingDials_8 : decode cX7_fittingDials 8 = .ok (.ireturn, 1) := by decide +kernel
theorem dX7_stepsToOpen_0 : decode cX7_stepsToOpen 0 = .ok (.aload_n 0, 1) := by decide +kernel
theorem dX7_stepsToOpen_1 : decode cX7_stepsToOpen 1 = .ok (.iload_n 1, 1) := by decide +kernel
theorem dX7_stepsToOpen_2 : decode cX7_stepsToOpen 2 = .ok (.invokevirtual 137, 3) := by decide +kernel
theorem dX7_stepsToOpen_5 : decode cX7_stepsToOpen 5 = .ok (.invokevirtual 169, 3) := by decide +kernel
theorem dX7_stepsToOpen_8 : decode cX7_stepsToOpen 8 = .ok (.ireturn, 1) := by decide +kernel
theorem dX7_stepsToOpenByTurning_0 : decode cX7_stepsToOpenByTurning 0 = .ok (.aload_n 0, 1) := by decide +kernel
theorem dX7_stepsToOpenByTurning_1 : decode cX7_stepsToOpenByTurning 1 = .ok (.iload_n 1, 1) := by decide +kernel
theorem dX7_stepsToOpenByTurning_2 : decode cX7_stepsToOpenByTurning 2 = .ok (.invokevirtual 137, 3) := by decide +kernel
theorem dX7_stepsToOpenByTurning_5 : decode cX7_stepsToOpenByTurning 5 = .ok (.aload_n 0, 1) := by decide +kernel
theorem dX7_stepsToOpenByTurning_6 : decode cX7_stepsToOpenByTurning 6 = .ok (.getfield 16, 3) := by decide +kernel
theorem dX7_stepsToOpenByTurning_9 : decode cX7_stepsToOpenByTurning 9 = .ok (.getfield 172, 3) := by decide +kernel
theorem dX7_stepsToOpenByTurning_12 : decode cX7_stepsToOpenByTurning 12 = .ok (.iconst 0, 1) := by decide +kernel
theorem dX7_stepsToOpenByTurning_13 : decode cX7_stepsToOpenByTurning 13 = .ok (.aaload, 1) := by decide +kernel
theorem dX7_stepsToOpenByTurning_14 : decode cX7_stepsToOpenByTurning 14 = .ok (.invokevirtual 176, 3) := by decide +kernel
theorem dX7_stepsToOpenByTurning_17 : decode cX7_stepsToOpenByTurning 17 = .ok (.ireturn, 1) := by decide +kernel
theorem dX7_openingSettings_0 : decode cX7_openingSettings 0 = .ok (.iconst 2, 1) := by decide +kernel
theorem dX7_openingSettings_1 : decode cX7_openingSettings 1 = .ok (.aload_n 0, 1) := by decide +kernel
theorem dX7_openingSettings_2 : decode cX7_openingSettings 2 = .ok (.iload_n 1, 1) := by decide +kernel
theorem dX7_openingSettings_3 : decode cX7_openingSettings 3 = .ok (.invokevirtual 137, 3) := by decide +kernel
theorem dX7_openingSettings_6 : decode cX7_openingSettings 6 = .ok (.invokevirtual 163, 3) := by decide +kernel
theorem dX7_openingSettings_9 : decode cX7_openingSettings 9 = .ok (.imul, 1) := by decide +kernel
theorem dX7_openingSettings_10 : decode cX7_openingSettings 10 = .ok (.iconst 1, 1) := by decide +kernel
theorem dX7_openingSettings_11 : decode cX7_openingSettings 11 = .ok (.iadd, 1) := by decide +kernel
theorem dX7_openingSettings_12 : decode cX7_openingSettings 12 = .ok (.istore_n 2, 1) := by decide +kernel
theorem dX7_openingSettings_13 : decode cX7_openingSettings 13 = .ok (.iload_n 2, 1) := by decide +kernel
theorem dX7_openingSettings_14 : decode cX7_openingSettings 14 = .ok (.iload_n 2, 1) := by decide +kernel
theorem dX7_openingSettings_15 : decode cX7_openingSettings 15 = .ok (.imul, 1) := by decide +kernel
theorem dX7_openingSettings_16 : decode cX7_openingSettings 16 = .ok (.iload_n 2, 1) := by decide +kernel
theorem dX7_openingSettings_17 : decode cX7_openingSettings 17 = .ok (.imul, 1) := by decide +kernel
theorem dX7_openingSettings_18 : decode cX7_openingSettings 18 = .ok (.ireturn, 1) := by decide +kernel
theorem dX7_lockOf_0 : decode cX7_lockOf 0 = .ok (.aload_n 0, 1) := by decide +kernel
theorem dX7_lockOf_1 : decode cX7_lockOf 1 = .ok (.getfield 10, 3) := by decide +kernel
theorem dX7_lockOf_4 : decode cX7_lockOf 4 = .ok (.iload_n 1, 1) := by decide +kernel
theorem dX7_lockOf_5 : decode cX7_lockOf 5 = .ok (.invokevirtual 180, 3) := by decide +kernel
theorem dX7_lockOf_8 : decode cX7_lockOf 8 = .ok (.ifCond .ne 13, 3) := by decide +kernel
theorem dX7_lockOf_11 : decode cX7_lockOf 11 = .ok (.new 112, 3) := by decide +kernel
theorem dX7_lockOf_14 : decode cX7_lockOf 14 = .ok (.dup, 1) := by decide +kernel
theorem dX7_lockOf_15 : decode cX7_lockOf 15 = .ok (.ldc 184, 2) := by decide +kernel
theorem dX7_lockOf_17 : decode cX7_lockOf 17 = .ok (.invokespecial 116, 3) := by decide +kernel
theorem dX7_lockOf_20 : decode cX7_lockOf 20 = .ok (.athrow, 1) := by decide +kernel
theorem dX7_lockOf_21 : decode cX7_lockOf 21 = .ok (.aload_n 0, 1) := by decide +kernel
theorem dX7_lockOf_22 : decode cX7_lockOf 22 = .ok (.getfield 10, 3) := by decide +kernel
theorem dX7_lockOf_25 : decode cX7_lockOf 25 = .ok (.getfield 172, 3) := by decide +kernel
theorem dX7_lockOf_28 : decode cX7_lockOf 28 = .ok (.iload_n 1, 1) := by decide +kernel
theorem dX7_lockOf_29 : decode cX7_lockOf 29 = .ok (.aaload, 1) := by decide +kernel
theorem dX7_lockOf_30 : decode cX7_lockOf 30 = .ok (.areturn, 1) := by decide +kernel
theorem dX7_requireDial_0 : decode cX7_requireDial 0 = .ok (.iload_n 0, 1) := by decide +kernel
theorem dX7_requireDial_1 : decode cX7_requireDial 1 = .ok (.invokestatic 186, 3) := by decide +kernel
theorem dX7_requireDial_4 : decode cX7_requireDial 4 = .ok (.ifCond .ne 13, 3) := by decide +kernel
theorem dX7_requireDial_7 : decode cX7_requireDial 7 = .ok (.new 112, 3) := by decide +kernel
theorem dX7_requireDial_10 : decode cX7_requireDial 10 = .ok (.dup, 1) := by decide +kernel
theorem dX7_requireDial_11 : decode cX7_requireDial 11 = .ok (.ldc 189, 2) := by decide +kernel
theorem dX7_requireDial_13 : decode cX7_requireDial 13 = .ok (.invokespecial 116, 3) := by decide +kernel
theorem dX7_requireDial_16 : decode cX7_requireDial 16 = .ok (.athrow, 1) := by decide +kernel
theorem dX7_requireDial_17 : decode cX7_requireDial 17 = .ok (.return_, 1) := by decide +kernel
theorem dX7_triesUntilBroken_0 : decode cX7_triesUntilBroken 0 = .ok (.aload_n 0, 1) := by decide +kernel
theorem dX7_triesUntilBroken_1 : decode cX7_triesUntilBroken 1 = .ok (.iload_n 1, 1) := by decide +kernel
theorem dX7_triesUntilBroken_2 : decode cX7_triesUntilBroken 2 = .ok (.invokevirtual 137, 3) := by decide +kernel
theorem dX7_triesUntilBroken_5 : decode cX7_triesUntilBroken 5 = .ok (.astore_n 2, 1) := by decide +kernel
theorem dX7_triesUntilBroken_6 : decode cX7_triesUntilBroken 6 = .ok (.aload_n 0, 1) := by decide +kernel
theorem dX7_triesUntilBroken_7 : decode cX7_triesUntilBroken 7 = .ok (.getfield 16, 3) := by decide +kernel
theorem dX7_triesUntilBroken_10 : decode cX7_triesUntilBroken 10 = .ok (.getfield 172, 3) := by decide +kernel
theorem dX7_triesUntilBroken_13 : decode cX7_triesUntilBroken 13 = .ok (.iconst 0, 1) := by decide +kernel
theorem dX7_triesUntilBroken_14 : decode cX7_triesUntilBroken 14 = .ok (.aaload, 1) := by decide +kernel
theorem dX7_triesUntilBroken_15 : decode cX7_triesUntilBroken 15 = .ok (.astore_n 3, 1) := by decide +kernel
theorem dX7_triesUntilBroken_16 : decode cX7_triesUntilBroken 16 = .ok (.aload_n 3, 1) := by decide +kernel
theorem dX7_triesUntilBroken_17 : decode cX7_triesUntilBroken 17 = .ok (.aload_n 2, 1) := by decide +kernel
theorem dX7_triesUntilBroken_18 : decode cX7_triesUntilBroken 18 = .ok (.invokevirtual 191, 3) := by decide +kernel
theorem dX7_triesUntilBroken_21 : decode cX7_triesUntilBroken 21 = .ok (.iconst 0, 1) := by decide +kernel
theorem dX7_triesUntilBroken_22 : decode cX7_triesUntilBroken 22 = .ok (.istore 4, 2) := by decide +kernel
theorem dX7_triesUntilBroken_24 : decode cX7_triesUntilBroken 24 = .ok (.iload 4, 2) := by decide +kernel
theorem dX7_triesUntilBroken_26 : decode cX7_triesUntilBroken 26 = .ok (.bipush 20, 2) := by decide +kernel
theorem dX7_triesUntilBroken_28 : decode cX7_triesUntilBroken 28 = .ok (.if_icmp .gt 29, 3) := by decide +kernel
theorem dX7_triesUntilBroken_31 : decode cX7_triesUntilBroken 31 = .ok (.aload_n 3, 1) := by decide +kernel
theorem dX7_triesUntilBroken_32 : decode cX7_triesUntilBroken 32 = .ok (.invokevirtual 156, 3) := by decide +kernel
theorem dX7_triesUntilBroken_35 : decode cX7_triesUntilBroken 35 = .ok (.ifCond .eq 6, 3) := by decide +kernel
theorem dX7_triesUntilBroken_38 : decode cX7_triesUntilBroken 38 = .ok (.iload 4, 2) := by decide +kernel
theorem dX7_triesUntilBroken_40 : decode cX7_triesUntilBroken 40 = .ok (.ireturn, 1) := by decide +kernel
theorem dX7_triesUntilBroken_41 : decode cX7_triesUntilBroken 41 = .ok (.aload_n 3, 1) := by decide +kernel
theorem dX7_triesUntilBroken_42 : decode cX7_triesUntilBroken 42 = .ok (.invokevirtual 195, 3) := by decide +kernel
theorem dX7_triesUntilBroken_45 : decode cX7_triesUntilBroken 45 = .ok (.ifCond .eq 6, 3) := by decide +kernel
theorem dX7_triesUntilBroken_48 : decode cX7_triesUntilBroken 48 = .ok (.goto 9, 3) := by decide +kernel
theorem dX7_triesUntilBroken_51 : decode cX7_triesUntilBroken 51 = .ok (.iinc 4 1, 3) := by decide +kernel
theorem dX7_triesUntilBroken_54 : decode cX7_triesUntilBroken 54 = .ok (.goto (-30), 3) := by decide +kernel
theorem dX7_triesUntilBroken_57 : decode cX7_triesUntilBroken 57 = .ok (.new 198, 3) := by decide +kernel
theorem dX7_triesUntilBroken_60 : decode cX7_triesUntilBroken 60 = .ok (.dup, 1) := by decide +kernel
theorem dX7_triesUntilBroken_61 : decode cX7_triesUntilBroken 61 = .ok (.ldc 200, 2) := by decide +kernel
theorem dX7_triesUntilBroken_63 : decode cX7_triesUntilBroken 63 = .ok (.invokespecial 202, 3) := by decide +kernel
theorem dX7_triesUntilBroken_66 : decode cX7_triesUntilBroken 66 = .ok (.athrow, 1) := by decide +kernel
theorem dX7_dialAfter_0 : decode cX7_dialAfter 0 = .ok (.aload_n 0, 1) := by decide +kernel
theorem dX7_dialAfter_1 : decode cX7_dialAfter 1 = .ok (.iload_n 1, 1) := by decide +kernel
theorem dX7_dialAfter_2 : decode cX7_dialAfter 2 = .ok (.invokevirtual 137, 3) := by decide +kernel
theorem dX7_dialAfter_5 : decode cX7_dialAfter 5 = .ok (.pop, 1) := by decide +kernel
theorem dX7_dialAfter_6 : decode cX7_dialAfter 6 = .ok (.iload_n 2, 1) := by decide +kernel
theorem dX7_dialAfter_7 : decode cX7_dialAfter 7 = .ok (.invokestatic 141, 3) := by decide +kernel
theorem dX7_dialAfter_10 : decode cX7_dialAfter 10 = .ok (.iload_n 3, 1) := by decide +kernel
theorem dX7_dialAfter_11 : decode cX7_dialAfter 11 = .ok (.ifCond .lt 9, 3) := by decide +kernel
theorem dX7_dialAfter_14 : decode cX7_dialAfter 14 = .ok (.iload_n 3, 1) := by decide +kernel
theorem dX7_dialAfter_15 : decode cX7_dialAfter 15 = .ok (.bipush 60, 2) := by decide +kernel
theorem dX7_dialAfter_17 : decode cX7_dialAfter 17 = .ok (.if_icmp .le 13, 3) := by decide +kernel
theorem dX7_dialAfter_20 : decode cX7_dialAfter 20 = .ok (.new 119, 3) := by decide +kernel
theorem dX7_dialAfter_23 : decode cX7_dialAfter 23 = .ok (.dup, 1) := by decide +kernel
theorem dX7_dialAfter_24 : decode cX7_dialAfter 24 = .ok (.ldc 203, 2) := by decide +kernel
theorem dX7_dialAfter_26 : decode cX7_dialAfter 26 = .ok (.invokespecial 123, 3) := by decide +kernel
theorem dX7_dialAfter_29 : decode cX7_dialAfter 29 = .ok (.athrow, 1) := by decide +kernel
theorem dX7_dialAfter_30 : decode cX7_dialAfter 30 = .ok (.aload_n 0, 1) := by decide +kernel
theorem dX7_dialAfter_31 : decode cX7_dialAfter 31 = .ok (.getfield 16, 3) := by decide +kernel
theorem dX7_dialAfter_34 : decode cX7_dialAfter 34 = .ok (.aload_n 0, 1) := by decide +kernel
theorem dX7_dialAfter_35 : decode cX7_dialAfter 35 = .ok (.getfield 10, 3) := by decide +kernel
theorem dX7_dialAfter_38 : decode cX7_dialAfter 38 = .ok (.invokevirtual 205, 3) := by decide +kernel
theorem dX7_dialAfter_41 : decode cX7_dialAfter 41 = .ok (.aload_n 0, 1) := by decide +kernel
theorem dX7_dialAfter_42 : decode cX7_dialAfter 42 = .ok (.getfield 16, 3) := by decide +kernel
theorem dX7_dialAfter_45 : decode cX7_dialAfter 45 = .ok (.iload_n 3, 1) := by decide +kernel
theorem dX7_dialAfter_46 : decode cX7_dialAfter 46 = .ok (.invokevirtual 207, 3) := by decide +kernel
theorem dX7_dialAfter_49 : decode cX7_dialAfter 49 = .ok (.pop, 1) := by decide +kernel
theorem dX7_dialAfter_50 : decode cX7_dialAfter 50 = .ok (.aload_n 0, 1) := by decide +kernel
theorem dX7_dialAfter_51 : decode cX7_dialAfter 51 = .ok (.getfield 16, 3) := by decide +kernel
theorem dX7_dialAfter_54 : decode cX7_dialAfter 54 = .ok (.getfield 172, 3) := by decide +kernel
theorem dX7_dialAfter_57 : decode cX7_dialAfter 57 = .ok (.iload_n 1, 1) := by decide +kernel
theorem dX7_dialAfter_58 : decode cX7_dialAfter 58 = .ok (.aaload, 1) := by decide +kernel
theorem dX7_dialAfter_59 : decode cX7_dialAfter 59 = .ok (.getfield 145, 3) := by decide +kernel
theorem dX7_dialAfter_62 : decode cX7_dialAfter 62 = .ok (.iload_n 2, 1) := by decide +kernel
theorem dX7_dialAfter_63 : decode cX7_dialAfter 63 = .ok (.iaload, 1) := by decide +kernel
theorem dX7_dialAfter_64 : decode cX7_dialAfter 64 = .ok (.ireturn, 1) := by decide +kernel
theorem dX7_hoursUntilFitting_0 : decode cX7_hoursUntilFitting 0 = .ok (.aload_n 0, 1) := by decide +kernel
theorem dX7_hoursUntilFitting_1 : decode cX7_hoursUntilFitting 1 = .ok (.iload_n 1, 1) := by decide +kernel
theorem dX7_hoursUntilFitting_2 : decode cX7_hoursUntilFitting 2 = .ok (.invokevirtual 137, 3) := by decide +kernel
theorem dX7_hoursUntilFitting_5 : decode cX7_hoursUntilFitting 5 = .ok (.pop, 1) := by decide +kernel
theorem dX7_hoursUntilFitting_6 : decode cX7_hoursUntilFitting 6 = .ok (.aload_n 0, 1) := by decide +kernel
theorem dX7_hoursUntilFitting_7 : decode cX7_hoursUntilFitting 7 = .ok (.getfield 16, 3) := by decide +kernel
theorem dX7_hoursUntilFitting_10 : decode cX7_hoursUntilFitting 10 = .ok (.aload_n 0, 1) := by decide +kernel
theorem dX7_hoursUntilFitting_11 : decode cX7_hoursUntilFitting 11 = .ok (.getfield 10, 3) := by decide +kernel
theorem dX7_hoursUntilFitting_14 : decode cX7_hoursUntilFitting 14 = .ok (.invokevirtual 205, 3) := by decide +kernel
theorem dX7_hoursUntilFitting_17 : decode cX7_hoursUntilFitting 17 = .ok (.aload_n 0, 1) := by decide +kernel
theorem dX7_hoursUntilFitting_18 : decode cX7_hoursUntilFitting 18 = .ok (.getfield 16, 3) := by decide +kernel
theorem dX7_hoursUntilFitting_21 : decode cX7_hoursUntilFitting 21 = .ok (.getfield 172, 3) := by decide +kernel
theorem dX7_hoursUntilFitting_24 : decode cX7_hoursUntilFitting 24 = .ok (.iload_n 1, 1) := by decide +kernel
theorem dX7_hoursUntilFitting_25 : decode cX7_hoursUntilFitting 25 = .ok (.aaload, 1) := by decide +kernel
theorem dX7_hoursUntilFitting_26 : decode cX7_hoursUntilFitting 26 = .ok (.astore_n 2, 1) := by decide +kernel
theorem dX7_hoursUntilFitting_27 : decode cX7_hoursUntilFitting 27 = .ok (.iconst 0, 1) := by decide +kernel
theorem dX7_hoursUntilFitting_28 : decode cX7_hoursUntilFitting 28 = .ok (.istore_n 3, 1) := by decide +kernel
theorem dX7_hoursUntilFitting_29 : decode cX7_hoursUntilFitting 29 = .ok (.iload_n 3, 1) := by decide +kernel
theorem dX7_hoursUntilFitting_30 : decode cX7_hoursUntilFitting 30 = .ok (.bipush 60, 2) := by decide +kernel
theorem dX7_hoursUntilFitting_32 : decode cX7_hoursUntilFitting 32 = .ok (.if_icmp .gt 26, 3) := by decide +kernel
theorem dX7_hoursUntilFitting_35 : decode cX7_hoursUntilFitting 35 = .ok (.aload_n 2, 1) := by decide +kernel
theorem dX7_hoursUntilFitting_36 : decode cX7_hoursUntilFitting 36 = .ok (.invokevirtual 166, 3) := by decide +kernel
theorem dX7_hoursUntilFitting_39 : decode cX7_hoursUntilFitting 39 = .ok (.iconst 3, 1) := by decide +kernel
theorem dX7_hoursUntilFitting_40 : decode cX7_hoursUntilFitting 40 = .ok (.if_icmp .ne 5, 3) := by decide +kernel
theorem dX7_hoursUntilFitting_43 : decode cX7_hoursUntilFitting 43 = .ok (.iload_n 3, 1) := by decide +kernel
theorem dX7_hoursUntilFitting_44 : decode cX7_hoursUntilFitting 44 = .ok (.ireturn, 1) := by decide +kernel
theorem dX7_hoursUntilFitting_45 : decode cX7_hoursUntilFitting 45 = .ok (.aload_n 0, 1) := by decide +kernel
theorem dX7_hoursUntilFitting_46 : decode cX7_hoursUntilFitting 46 = .ok (.getfield 16, 3) := by decide +kernel
theorem dX7_hoursUntilFitting_49 : decode cX7_hoursUntilFitting 49 = .ok (.invokevirtual 211, 3) := by decide +kernel
theorem dX7_hoursUntilFitting_52 : decode cX7_hoursUntilFitting 52 = .ok (.iinc 3 1, 3) := by decide +kernel
theorem dX7_hoursUntilFitting_55 : decode cX7_hoursUntilFitting 55 = .ok (.goto (-26), 3) := by decide +kernel
theorem dX7_hoursUntilFitting_58 : decode cX7_hoursUntilFitting 58 = .ok (.new 198, 3) := by decide +kernel
theorem dX7_hoursUntilFitting_61 : decode cX7_hoursUntilFitting 61 = .ok (.dup, 1) := by decide +kernel
theorem dX7_hoursUntilFitting_62 : decode cX7_hoursUntilFitting 62 = .ok (.ldc 214, 2) := by decide +kernel
theorem dX7_hoursUntilFitting_64 : decode cX7_hoursUntilFitting 64 = .ok (.invokespecial 202, 3) := by decide +kernel
theorem dX7_hoursUntilFitting_67 : decode cX7_hoursUntilFitting 67 = .ok (.athrow, 1) := by decide +kernel
theorem dX7_bakedDoor_0 : decode cX7_bakedDoor 0 = .ok (.iload_n 1, 1) := by decide +kernel
theorem dX7_bakedDoor_1 : decode cX7_bakedDoor 1 = .ok (.invokestatic 216, 3) := by decide +kernel
theorem dX7_bakedDoor_4 : decode cX7_bakedDoor 4 = .ok (.aload_n 0, 1) := by decide +kernel
theorem dX7_bakedDoor_5 : decode cX7_bakedDoor 5 = .ok (.getfield 10, 3) := by decide +kernel
theorem dX7_bakedDoor_8 : decode cX7_bakedDoor 8 = .ok (.getfield 219, 3) := by decide +kernel
theorem dX7_bakedDoor_11 : decode cX7_bakedDoor 11 = .ok (.iload_n 1, 1) := by decide +kernel
theorem dX7_bakedDoor_12 : decode cX7_bakedDoor 12 = .ok (.iaload, 1) := by decide +kernel
theorem dX7_bakedDoor_13 : decode cX7_bakedDoor 13 = .ok (.istore_n 2, 1) := by decide +kernel
theorem dX7_bakedDoor_14 : decode cX7_bakedDoor 14 = .ok (.iload_n 2, 1) := by decide +kernel
theorem dX7_bakedDoor_15 : decode cX7_bakedDoor 15 = .ok (.iconst (-1), 1) := by decide +kernel
theorem dX7_bakedDoor_16 : decode cX7_bakedDoor 16 = .ok (.if_icmp .ne 13, 3) := by decide +kernel
theorem dX7_bakedDoor_19 : decode cX7_bakedDoor 19 = .ok (.new 198, 3) := by decide +kernel
theorem dX7_bakedDoor_22 : decode cX7_bakedDoor 22 = .ok (.dup, 1) := by decide +kernel
theorem dX7_bakedDoor_23 : decode cX7_bakedDoor 23 = .ok (.ldc 222, 2) := by decide +kernel
theorem dX7_bakedDoor_25 : decode cX7_bakedDoor 25 = .ok (.invokespecial 202, 3) := by decide +kernel
theorem dX7_bakedDoor_28 : decode cX7_bakedDoor 28 = .ok (.athrow, 1) := by decide +kernel
theorem dX7_bakedDoor_29 : decode cX7_bakedDoor 29 = .ok (.iload_n 2, 1) := by decide +kernel
theorem dX7_bakedDoor_30 : decode cX7_bakedDoor 30 = .ok (.ireturn, 1) := by decide +kernel
theorem dX7_bakingHours_0 : decode cX7_bakingHours 0 = .ok (.iload_n 1, 1) := by decide +kernel
theorem dX7_bakingHours_1 : decode cX7_bakingHours 1 = .ok (.invokestatic 216, 3) := by decide +kernel
theorem dX7_bakingHours_4 : decode cX7_bakingHours 4 = .ok (.aload_n 0, 1) := by decide +kernel
theorem dX7_bakingHours_5 : decode cX7_bakingHours 5 = .ok (.getfield 10, 3) := by decide +kernel
theorem dX7_bakingHours_8 : decode cX7_bakingHours 8 = .ok (.getfield 224, 3) := by decide +kernel
theorem dX7_bakingHours_11 : decode cX7_bakingHours 11 = .ok (.iload_n 1, 1) := by decide +kernel
theorem dX7_bakingHours_12 : decode cX7_bakingHours 12 = .ok (.iaload, 1) := by decide +kernel
theorem dX7_bakingHours_13 : decode cX7_bakingHours 13 = .ok (.ireturn, 1) := by decide +kernel
theorem dX7_isBaking_0 : decode cX7_isBaking 0 = .ok (.aload_n 0, 1) := by decide +kernel
theorem dX7_isBaking_1 : decode cX7_isBaking 1 = .ok (.iload_n 1, 1) := by decide +kernel
theorem dX7_isBaking_2 : decode cX7_isBaking 2 = .ok (.invokevirtual 137, 3) := by decide +kernel
theorem dX7_isBaking_5 : decode cX7_isBaking 5 = .ok (.pop, 1) := by decide +kernel
theorem dX7_isBaking_6 : decode cX7_isBaking 6 = .ok (.aload_n 0, 1) := by decide +kernel
theorem dX7_isBaking_7 : decode cX7_isBaking 7 = .ok (.getfield 10, 3) := by decide +kernel
theorem dX7_isBaking_10 : decode cX7_isBaking 10 = .ok (.iload_n 1, 1) := by decide +kernel
theorem dX7_isBaking_11 : decode cX7_isBaking 11 = .ok (.invokevirtual 227, 3) := by decide +kernel
theorem dX7_isBaking_14 : decode cX7_isBaking 14 = .ok (.ireturn, 1) := by decide +kernel
theorem dX7_requireOven_0 : decode cX7_requireOven 0 = .ok (.iload_n 0, 1) := by decide +kernel
theorem dX7_requireOven_1 : decode cX7_requireOven 1 = .ok (.invokestatic 230, 3) := by decide +kernel
theorem dX7_requireOven_4 : decode cX7_requireOven 4 = .ok (.ifCond .ne 13, 3) := by decide +kernel
theorem dX7_requireOven_7 : decode cX7_requireOven 7 = .ok (.new 112, 3) := by decide +kernel
theorem dX7_requireOven_10 : decode cX7_requireOven 10 = .ok (.dup, 1) := by decide +kernel
theorem dX7_requireOven_11 : decode cX7_requireOven 11 = .ok (.ldc 233, 2) := by decide +kernel
theorem dX7_requireOven_13 : decode cX7_requireOven 13 = .ok (.invokespecial 116, 3) := by decide +kernel
theorem dX7_requireOven_16 : decode cX7_requireOven 16 = .ok (.athrow, 1) := by decide +kernel
theorem dX7_requireOven_17 : decode cX7_requireOven 17 = .ok (.return_, 1) := by decide +kernel
theorem dX7_doorByCrumbs_0 : decode cX7_doorByCrumbs 0 = .ok (.iconst 0, 1) := by decide +kernel
theorem dX7_doorByCrumbs_1 : decode cX7_doorByCrumbs 1 = .ok (.istore_n 2, 1) := by decide +kernel
theorem dX7_doorByCrumbs_2 : decode cX7_doorByCrumbs 2 = .ok (.iload_n 2, 1) := by decide +kernel
theorem dX7_doorByCrumbs_3 : decode cX7_doorByCrumbs 3 = .ok (.aload_n 0, 1) := by decide +kernel
theorem dX7_doorByCrumbs_4 : decode cX7_doorByCrumbs 4 = .ok (.getfield 10, 3) := by decide +kernel
theorem dX7_doorByCrumbs_7 : decode cX7_doorByCrumbs 7 = .ok (.getfield 134, 3) := by decide +kernel
theorem dX7_doorByCrumbs_10 : decode cX7_doorByCrumbs 10 = .ok (.if_icmp .ge 23, 3) := by decide +kernel
theorem dX7_doorByCrumbs_13 : decode cX7_doorByCrumbs 13 = .ok (.aload_n 0, 1) := by decide +kernel
theorem dX7_doorByCrumbs_14 : decode cX7_doorByCrumbs 14 = .ok (.getfield 10, 3) := by decide +kernel
theorem dX7_doorByCrumbs_17 : decode cX7_doorByCrumbs 17 = .ok (.iload_n 2, 1) := by decide +kernel
theorem dX7_doorByCrumbs_18 : decode cX7_doorByCrumbs 18 = .ok (.invokevirtual 235, 3) := by decide +kernel
theorem dX7_doorByCrumbs_21 : decode cX7_doorByCrumbs 21 = .ok (.iload_n 1, 1) := by decide +kernel
theorem dX7_doorByCrumbs_22 : decode cX7_doorByCrumbs 22 = .ok (.if_icmp .ne 5, 3) := by decide +kernel
theorem dX7_doorByCrumbs_25 : decode cX7_doorByCrumbs 25 = .ok (.iload_n 2, 1) := by decide +kernel
theorem dX7_doorByCrumbs_26 : decode cX7_doorByCrumbs 26 = .ok (.ireturn, 1) := by decide +kernel
theorem dX7_doorByCrumbs_27 : decode cX7_doorByCrumbs 27 = .ok (.iinc 2 1, 3) := by decide +kernel
theorem dX7_doorByCrumbs_30 : decode cX7_doorByCrumbs 30 = .ok (.goto (-28), 3) := by decide +kernel
theorem dX7_doorByCrumbs_33 : decode cX7_doorByCrumbs 33 = .ok (.new 198, 3) := by decide +kernel
theorem dX7_doorByCrumbs_36 : decode cX7_doorByCrumbs 36 = .ok (.dup, 1) := by decide +kernel
theorem dX7_doorByCrumbs_37 : decode cX7_doorByCrumbs 37 = .ok (.ldc 238, 2) := by decide +kernel
theorem dX7_doorByCrumbs_39 : decode cX7_doorByCrumbs 39 = .ok (.invokespecial 202, 3) := by decide +kernel
theorem dX7_doorByCrumbs_42 : decode cX7_doorByCrumbs 42 = .ok (.athrow, 1) := by decide +kernel
theorem dX7_rememberedTries_0 : decode cX7_rememberedTries 0 = .ok (.aload_n 0, 1) := by decide +kernel
theorem dX7_rememberedTries_1 : decode cX7_rememberedTries 1 = .ok (.getfield 10, 3) := by decide +kernel
theorem dX7_rememberedTries_4 : decode cX7_rememberedTries 4 = .ok (.invokevirtual 240, 3) := by decide +kernel
theorem dX7_rememberedTries_7 : decode cX7_rememberedTries 7 = .ok (.ireturn, 1) := by decide +kernel
theorem dX7_triedDoor_0 : decode cX7_triedDoor 0 = .ok (.aload_n 0, 1) := by decide +kernel
theorem dX7_triedDoor_1 : decode cX7_triedDoor 1 = .ok (.iload_n 1, 1) := by decide +kernel
theorem dX7_triedDoor_2 : decode cX7_triedDoor 2 = .ok (.invokevirtual 243, 3) := by decide +kernel
theorem dX7_triedDoor_5 : decode cX7_triedDoor 5 = .ok (.aload_n 0, 1) := by decide +kernel
theorem dX7_triedDoor_6 : decode cX7_triedDoor 6 = .ok (.getfield 10, 3) := by decide +kernel
theorem dX7_triedDoor_9 : decode cX7_triedDoor 9 = .ok (.getfield 246, 3) := by decide +kernel
theorem dX7_triedDoor_12 : decode cX7_triedDoor 12 = .ok (.iload_n 1, 1) := by decide +kernel
theorem dX7_triedDoor_13 : decode cX7_triedDoor 13 = .ok (.iaload, 1) := by decide +kernel
theorem dX7_triedDoor_14 : decode cX7_triedDoor 14 = .ok (.ireturn, 1) := by decide +kernel
theorem dX7_didOpen_0 : decode cX7_didOpen 0 = .ok (.aload_n 0, 1) := by decide +kernel
theorem dX7_didOpen_1 : decode cX7_didOpen 1 = .ok (.iload_n 1, 1) := by decide +kernel
theorem dX7_didOpen_2 : decode cX7_didOpen 2 = .ok (.invokevirtual 243, 3) := by decide +kernel
theorem dX7_didOpen_5 : decode cX7_didOpen 5 = .ok (.aload_n 0, 1) := by decide +kernel
theorem dX7_didOpen_6 : decode cX7_didOpen 6 = .ok (.getfield 10, 3) := by decide +kernel
theorem dX7_didOpen_9 : decode cX7_didOpen 9 = .ok (.getfield 249, 3) := by decide +kernel
theorem dX7_didOpen_12 : decode cX7_didOpen 12 = .ok (.iload_n 1, 1) := by decide +kernel
theorem dX7_didOpen_13 : decode cX7_didOpen 13 = .ok (.baload, 1) := by decide +kernel
theorem dX7_didOpen_14 : decode cX7_didOpen 14 = .ok (.ireturn, 1) := by decide +kernel
theorem dX7_requireRemembered_0 : decode cX7_requireRemembered 0 = .ok (.iload_n 1, 1) := by decide +kernel
theorem dX7_requireRemembered_1 : decode cX7_requireRemembered 1 = .ok (.ifCond .lt 14, 3) := by decide +kernel
theorem dX7_requireRemembered_4 : decode cX7_requireRemembered 4 = .ok (.iload_n 1, 1) := by decide +kernel
theorem dX7_requireRemembered_5 : decode cX7_requireRemembered 5 = .ok (.aload_n 0, 1) := by decide +kernel
theorem dX7_requireRemembered_6 : decode cX7_requireRemembered 6 = .ok (.getfield 10, 3) := by decide +kernel
theorem dX7_requireRemembered_9 : decode cX7_requireRemembered 9 = .ok (.invokevirtual 240, 3) := by decide +kernel
theorem dX7_requireRemembered_12 : decode cX7_requireRemembered 12 = .ok (.if_icmp .lt 13, 3) := by decide +kernel
theorem dX7_requireRemembered_15 : decode cX7_requireRemembered 15 = .ok (.new 198, 3) := by decide +kernel
theorem dX7_requireRemembered_18 : decode cX7_requireRemembered 18 = .ok (.dup, 1) := by decide +kernel
theorem dX7_requireRemembered_19 : decode cX7_requireRemembered 19 = .ok (.ldc 253, 2) := by decide +kernel
theorem dX7_requireRemembered_21 : decode cX7_requireRemembered 21 = .ok (.invokespecial 202, 3) := by decide +kernel
theorem dX7_requireRemembered_24 : decode cX7_requireRemembered 24 = .ok (.athrow, 1) := by decide +kernel
theorem dX7_requireRemembered_25 : decode cX7_requireRemembered 25 = .ok (.return_, 1) := by decide +kernel
theorem dX7_shutLocks_0 : decode cX7_shutLocks 0 = .ok (.aload_n 0, 1) := by decide +kernel
theorem dX7_shutLocks_1 : decode cX7_shutLocks 1 = .ok (.getfield 10, 3) := by decide +kernel
theorem dX7_shutLocks_4 : decode cX7_shutLocks 4 = .ok (.invokevirtual 255, 3) := by decide +kernel
theorem dX7_shutLocks_7 : decode cX7_shutLocks 7 = .ok (.ireturn, 1) := by decide +kernel
theorem dX7_shutLocksByAccounts_0 : decode cX7_shutLocksByAccounts 0 = .ok (.aload_n 0, 1) := by decide +kernel
theorem dX7_shutLocksByAccounts_1 : decode cX7_shutLocksByAccounts 1 = .ok (.getfield 10, 3) := by decide +kernel
theorem dX7_shutLocksByAccounts_4 : decode cX7_shutLocksByAccounts 4 = .ok (.invokevirtual 258, 3) := by decide +kernel
theorem dX7_shutLocksByAccounts_7 : decode cX7_shutLocksByAccounts 7 = .ok (.ireturn, 1) := by decide +kernel
theorem dX7_damp_0 : decode cX7_damp 0 = .ok (.aload_n 0, 1) := by decide +kernel
theorem dX7_damp_1 : decode cX7_damp 1 = .ok (.getfield 10, 3) := by decide +kernel
theorem dX7_damp_4 : decode cX7_damp 4 = .ok (.getfield 261, 3) := by decide +kernel
theorem dX7_damp_7 : decode cX7_damp 7 = .ok (.ireturn, 1) := by decide +kernel
theorem dX7_hour_0 : decode cX7_hour 0 = .ok (.aload_n 0, 1) := by decide +kernel
theorem dX7_hour_1 : decode cX7_hour 1 = .ok (.getfield 10, 3) := by decide +kernel
theorem dX7_hour_4 : decode cX7_hour 4 = .ok (.getfield 264, 3) := by decide +kernel
theorem dX7_hour_7 : decode cX7_hour 7 = .ok (.ireturn, 1) := by decide +kernel
theorem dX7_tryTotal_0 : decode cX7_tryTotal 0 = .ok (.aload_n 0, 1) := by decide +kernel
theorem dX7_tryTotal_1 : decode cX7_tryTotal 1 = .ok (.getfield 10, 3) := by decide +kernel
theorem dX7_tryTotal_4 : decode cX7_tryTotal 4 = .ok (.getfield 267, 3) := by decide +kernel
theorem dX7_tryTotal_7 : decode cX7_tryTotal 7 = .ok (.ireturn, 1) := by decide +kernel
theorem dX7_openedTotal_0 : decode cX7_openedTotal 0 = .ok (.aload_n 0, 1) := by decide +kernel
theorem dX7_openedTotal_1 : decode cX7_openedTotal 1 = .ok (.getfield 10, 3) := by decide +kernel
theorem dX7_openedTotal_4 : decode cX7_openedTotal 4 = .ok (.getfield 270, 3) := by decide +kernel
theorem dX7_openedTotal_7 : decode cX7_openedTotal 7 = .ok (.ireturn, 1) := by decide +kernel
theorem dX7_bakedTotal_0 : decode cX7_bakedTotal 0 = .ok (.aload_n 0, 1) := by decide +kernel
theorem dX7_bakedTotal_1 : decode cX7_bakedTotal 1 = .ok (.getfield 10, 3) := by decide +kernel
theorem dX7_bakedTotal_4 : decode cX7_bakedTotal 4 = .ok (.getfield 273, 3) := by decide +kernel
theorem dX7_bakedTotal_7 : decode cX7_bakedTotal 7 = .ok (.ireturn, 1) := by decide +kernel
theorem dX7_meanCrumbs_0 : decode cX7_meanCrumbs 0 = .ok (.aload_n 0, 1) := by decide +kernel
theorem dX7_meanCrumbs_1 : decode cX7_meanCrumbs 1 = .ok (.getfield 10, 3) := by decide +kernel
theorem dX7_meanCrumbs_4 : decode cX7_meanCrumbs 4 = .ok (.getfield 134, 3) := by decide +kernel
theorem dX7_meanCrumbs_7 : decode cX7_meanCrumbs 7 = .ok (.ifCond .ne 14, 3) := by decide +kernel
theorem dX7_meanCrumbs_10 : decode cX7_meanCrumbs 10 = .ok (.new 276, 3) := by decide +kernel
theorem dX7_meanCrumbs_13 : decode cX7_meanCrumbs 13 = .ok (.dup, 1) := by decide +kernel
theorem dX7_meanCrumbs_14 : decode cX7_meanCrumbs 14 = .ok (.ldc_w 278, 3) := by decide +kernel
theorem dX7_meanCrumbs_17 : decode cX7_meanCrumbs 17 = .ok (.invokespecial 280, 3) := by decide +kernel
theorem dX7_meanCrumbs_20 : decode cX7_meanCrumbs 20 = .ok (.athrow, 1) := by decide +kernel
theorem dX7_meanCrumbs_21 : decode cX7_meanCrumbs 21 = .ok (.iconst 0, 1) := by decide +kernel
theorem dX7_meanCrumbs_22 : decode cX7_meanCrumbs 22 = .ok (.istore_n 1, 1) := by decide +kernel
theorem dX7_meanCrumbs_23 : decode cX7_meanCrumbs 23 = .ok (.iconst 0, 1) := by decide +kernel
theorem dX7_meanCrumbs_24 : decode cX7_meanCrumbs 24 = .ok (.istore_n 2, 1) := by decide +kernel
theorem dX7_meanCrumbs_25 : decode cX7_meanCrumbs 25 = .ok (.iload_n 2, 1) := by decide +kernel
theorem dX7_meanCrumbs_26 : decode cX7_meanCrumbs 26 = .ok (.aload_n 0, 1) := by decide +kernel
theorem dX7_meanCrumbs_27 : decode cX7_meanCrumbs 27 = .ok (.getfield 10, 3) := by decide +kernel
theorem dX7_meanCrumbs_30 : decode cX7_meanCrumbs 30 = .ok (.getfield 134, 3) := by decide +kernel
theorem dX7_meanCrumbs_33 : decode cX7_meanCrumbs 33 = .ok (.if_icmp .ge 24, 3) := by decide +kernel
theorem dX7_meanCrumbs_36 : decode cX7_meanCrumbs 36 = .ok (.iload_n 1, 1) := by decide +kernel
theorem dX7_meanCrumbs_37 : decode cX7_meanCrumbs 37 = .ok (.aload_n 0, 1) := by decide +kernel
theorem dX7_meanCrumbs_38 : decode cX7_meanCrumbs 38 = .ok (.getfield 10, 3) := by decide +kernel
theorem dX7_meanCrumbs_41 : decode cX7_meanCrumbs 41 = .ok (.getfield 172, 3) := by decide +kernel
theorem dX7_meanCrumbs_44 : decode cX7_meanCrumbs 44 = .ok (.iload_n 2, 1) := by decide +kernel
theorem dX7_meanCrumbs_45 : decode cX7_meanCrumbs 45 = .ok (.aaload, 1) := by decide +kernel
theorem dX7_meanCrumbs_46 : decode cX7_meanCrumbs 46 = .ok (.getfield 160, 3) := by decide +kernel
theorem dX7_meanCrumbs_49 : decode cX7_meanCrumbs 49 = .ok (.iadd, 1) := by decide +kernel
theorem dX7_meanCrumbs_50 : decode cX7_meanCrumbs 50 = .ok (.istore_n 1, 1) := by decide +kernel
theorem dX7_meanCrumbs_51 : decode cX7_meanCrumbs 51 = .ok (.iinc 2 1, 3) := by decide +kernel
theorem dX7_meanCrumbs_54 : decode cX7_meanCrumbs 54 = .ok (.goto (-29), 3) := by decide +kernel
theorem dX7_meanCrumbs_57 : decode cX7_meanCrumbs 57 = .ok (.iload_n 1, 1) := by decide +kernel
theorem dX7_meanCrumbs_58 : decode cX7_meanCrumbs 58 = .ok (.i2d, 1) := by decide +kernel
theorem dX7_meanCrumbs_59 : decode cX7_meanCrumbs 59 = .ok (.aload_n 0, 1) := by decide +kernel
theorem dX7_meanCrumbs_60 : decode cX7_meanCrumbs 60 = .ok (.getfield 10, 3) := by decide +kernel
theorem dX7_meanCrumbs_63 : decode cX7_meanCrumbs 63 = .ok (.getfield 134, 3) := by decide +kernel
theorem dX7_meanCrumbs_66 : decode cX7_meanCrumbs 66 = .ok (.i2d, 1) := by decide +kernel
theorem dX7_meanCrumbs_67 : decode cX7_meanCrumbs 67 = .ok (.ddiv, 1) := by decide +kernel
theorem dX7_meanCrumbs_68 : decode cX7_meanCrumbs 68 = .ok (.dreturn, 1) := by decide +kernel
theorem dX7_openedShare_0 : decode cX7_openedShare 0 = .ok (.aload_n 0, 1) := by decide +kernel
theorem dX7_openedShare_1 : decode cX7_openedShare 1 = .ok (.getfield 10, 3) := by decide +kernel
theorem dX7_openedShare_4 : decode cX7_openedShare 4 = .ok (.getfield 267, 3) := by decide +kernel
theorem dX7_openedShare_7 : decode cX7_openedShare 7 = .ok (.ifCond .ne 14, 3) := by decide +kernel
theorem dX7_openedShare_10 : decode cX7_openedShare 10 = .ok (.new 276, 3) := by decide +kernel
theorem dX7_openedShare_13 : decode cX7_openedShare 13 = .ok (.dup, 1) := by decide +kernel
theorem dX7_openedShare_14 : decode cX7_openedShare 14 = .ok (.ldc_w 281, 3) := by decide +kernel
theorem dX7_openedShare_17 : decode cX7_openedShare 17 = .ok (.invokespecial 280, 3) := by decide +kernel
theorem dX7_openedShare_20 : decode cX7_openedShare 20 = .ok (.athrow, 1) := by decide +kernel
theorem dX7_openedShare_21 : decode cX7_openedShare 21 = .ok (.aload_n 0, 1) := by decide +kernel
theorem dX7_openedShare_22 : decode cX7_openedShare 22 = .ok (.getfield 10, 3) := by decide +kernel
theorem dX7_openedShare_25 : decode cX7_openedShare 25 = .ok (.getfield 270, 3) := by decide +kernel
theorem dX7_openedShare_28 : decode cX7_openedShare 28 = .ok (.i2f, 1) := by decide +kernel
theorem dX7_openedShare_29 : decode cX7_openedShare 29 = .ok (.aload_n 0, 1) := by decide +kernel
theorem dX7_openedShare_30 : decode cX7_openedShare 30 = .ok (.getfield 10, 3) := by decide +kernel
theorem dX7_openedShare_33 : decode cX7_openedShare 33 = .ok (.getfield 267, 3) := by decide +kernel
theorem dX7_openedShare_36 : decode cX7_openedShare 36 = .ok (.i2f, 1) := by decide +kernel
theorem dX7_openedShare_37 : decode cX7_openedShare 37 = .ok (.fdiv, 1) := by decide +kernel
theorem dX7_openedShare_38 : decode cX7_openedShare 38 = .ok (.freturn, 1) := by decide +kernel
theorem dX7_isConsistent_0 : decode cX7_isConsistent 0 = .ok (.iconst 0, 1) := by decide +kernel
theorem dX7_isConsistent_1 : decode cX7_isConsistent 1 = .ok (.istore_n 1, 1) := by decide +kernel
theorem dX7_isConsistent_2 : decode cX7_isConsistent 2 = .ok (.iload_n 1, 1) := by decide +kernel
theorem dX7_isConsistent_3 : decode cX7_isConsistent 3 = .ok (.aload_n 0, 1) := by decide +kernel
theorem dX7_isConsistent_4 : decode cX7_isConsistent 4 = .ok (.getfield 10, 3) := by decide +kernel
theorem dX7_isConsistent_7 : decode cX7_isConsistent 7 = .ok (.getfield 134, 3) := by decide +kernel
theorem dX7_isConsistent_10 : decode cX7_isConsistent 10 = .ok (.if_icmp .ge 57, 3) := by decide +kernel
theorem dX7_isConsistent_13 : decode cX7_isConsistent 13 = .ok (.aload_n 0, 1) := by decide +kernel
theorem dX7_isConsistent_14 : decode cX7_isConsistent 14 = .ok (.getfield 10, 3) := by decide +kernel
theorem dX7_isConsistent_17 : decode cX7_isConsistent 17 = .ok (.getfield 172, 3) := by decide +kernel
theorem dX7_isConsistent_20 : decode cX7_isConsistent 20 = .ok (.iload_n 1, 1) := by decide +kernel
theorem dX7_isConsistent_21 : decode cX7_isConsistent 21 = .ok (.aaload, 1) := by decide +kernel
theorem dX7_isConsistent_22 : decode cX7_isConsistent 22 = .ok (.astore_n 2, 1) := by decide +kernel
theorem dX7_isConsistent_23 : decode cX7_isConsistent 23 = .ok (.aload_n 2, 1) := by decide +kernel
theorem dX7_isConsistent_24 : decode cX7_isConsistent 24 = .ok (.invokevirtual 169, 3) := by decide +kernel
theorem dX7_isConsistent_27 : decode cX7_isConsistent 27 = .ok (.aload_n 2, 1) := by decide +kernel
theorem dX7_isConsistent_28 : decode cX7_isConsistent 28 = .ok (.aload_n 0, 1) := by decide +kernel
theorem dX7_isConsistent_29 : decode cX7_isConsistent 29 = .ok (.getfield 16, 3) := by decide +kernel
theorem dX7_isConsistent_32 : decode cX7_isConsistent 32 = .ok (.getfield 172, 3) := by decide +kernel
theorem dX7_isConsistent_35 : decode cX7_isConsistent 35 = .ok (.iconst 0, 1) := by decide +kernel
theorem dX7_isConsistent_36 : decode cX7_isConsistent 36 = .ok (.aaload, 1) := by decide +kernel
theorem dX7_isConsistent_37 : decode cX7_isConsistent 37 = .ok (.invokevirtual 176, 3) := by decide +kernel
theorem dX7_isConsistent_40 : decode cX7_isConsistent 40 = .ok (.if_icmp .eq 5, 3) := by decide +kernel
theorem dX7_isConsistent_43 : decode cX7_isConsistent 43 = .ok (.iconst 0, 1) := by decide +kernel
theorem dX7_isConsistent_44 : decode cX7_isConsistent 44 = .ok (.ireturn, 1) := by decide +kernel
theorem dX7_isConsistent_45 : decode cX7_isConsistent 45 = .ok (.aload_n 2, 1) := by decide +kernel
theorem dX7_isConsistent_46 : decode cX7_isConsistent 46 = .ok (.invokevirtual 156, 3) := by decide +kernel
theorem dX7_isConsistent_49 : decode cX7_isConsistent 49 = .ok (.ifCond .eq 12, 3) := by decide +kernel
theorem dX7_isConsistent_52 : decode cX7_isConsistent 52 = .ok (.aload_n 2, 1) := by decide +kernel
theorem dX7_isConsistent_53 : decode cX7_isConsistent 53 = .ok (.getfield 153, 3) := by decide +kernel
theorem dX7_isConsistent_56 : decode cX7_isConsistent 56 = .ok (.ifCond .ne 5, 3) := by decide +kernel
theorem dX7_isConsistent_59 : decode cX7_isConsistent 59 = .ok (.iconst 0, 1) := by decide +kernel
theorem dX7_isConsistent_60 : decode cX7_isConsistent 60 = .ok (.ireturn, 1) := by decide +kernel
theorem dX7_isConsistent_61 : decode cX7_isConsistent 61 = .ok (.iinc 1 1, 3) := by decide +kernel
theorem dX7_isConsistent_64 : decode cX7_isConsistent 64 = .ok (.goto (-62), 3) := by decide +kernel
theorem dX7_isConsistent_67 : decode cX7_isConsistent 67 = .ok (.aload_n 0, 1) := by decide +kernel
theorem dX7_isConsistent_68 : decode cX7_isConsistent 68 = .ok (.getfield 10, 3) := by decide +kernel
theorem dX7_isConsistent_71 : decode cX7_isConsistent 71 = .ok (.invokevirtual 255, 3) := by decide +kernel
theorem dX7_isConsistent_74 : decode cX7_isConsistent 74 = .ok (.aload_n 0, 1) := by decide +kernel
theorem dX7_isConsistent_75 : decode cX7_isConsistent 75 = .ok (.getfield 10, 3) := by decide +kernel
theorem dX7_isConsistent_78 : decode cX7_isConsistent 78 = .ok (.invokevirtual 258, 3) := by decide +kernel
theorem dX7_isConsistent_81 : decode cX7_isConsistent 81 = .ok (.if_icmp .ne 7, 3) := by decide +kernel
theorem dX7_isConsistent_84 : decode cX7_isConsistent 84 = .ok (.iconst 1, 1) := by decide +kernel
theorem dX7_isConsistent_85 : decode cX7_isConsistent 85 = .ok (.goto 4, 3) := by decide +kernel
theorem dX7_isConsistent_88 : decode cX7_isConsistent 88 = .ok (.iconst 0, 1) := by decide +kernel
theorem dX7_isConsistent_89 : decode cX7_isConsistent 89 = .ok (.ireturn, 1) := by decide +kernel
theorem dX7_renderLock_0 : decode cX7_renderLock 0 = .ok (.aload_n 0, 1) := by decide +kernel
theorem dX7_renderLock_1 : decode cX7_renderLock 1 = .ok (.iload_n 1, 1) := by decide +kernel
theorem dX7_renderLock_2 : decode cX7_renderLock 2 = .ok (.invokevirtual 137, 3) := by decide +kernel
theorem dX7_renderLock_5 : decode cX7_renderLock 5 = .ok (.astore_n 2, 1) := by decide +kernel
theorem dX7_renderLock_6 : decode cX7_renderLock 6 = .ok (.aload_n 0, 1) := by decide +kernel
theorem dX7_renderLock_7 : decode cX7_renderLock 7 = .ok (.getfield 39, 3) := by decide +kernel
theorem dX7_renderLock_10 : decode cX7_renderLock 10 = .ok (.iconst 0, 1) := by decide +kernel
theorem dX7_renderLock_11 : decode cX7_renderLock 11 = .ok (.invokevirtual 283, 3) := by decide +kernel
theorem dX7_renderLock_14 : decode cX7_renderLock 14 = .ok (.aload_n 0, 1) := by decide +kernel
theorem dX7_renderLock_15 : decode cX7_renderLock 15 = .ok (.aload_n 2, 1) := by decide +kernel
theorem dX7_renderLock_16 : decode cX7_renderLock 16 = .ok (.getfield 145, 3) := by decide +kernel
theorem dX7_renderLock_19 : decode cX7_renderLock 19 = .ok (.invokevirtual 286, 3) := by decide +kernel
theorem dX7_renderLock_22 : decode cX7_renderLock 22 = .ok (.aload_n 0, 1) := by decide +kernel
theorem dX7_renderLock_23 : decode cX7_renderLock 23 = .ok (.getfield 39, 3) := by decide +kernel
theorem dX7_renderLock_26 : decode cX7_renderLock 26 = .ok (.bipush 47, 2) := by decide +kernel
theorem dX7_renderLock_28 : decode cX7_renderLock 28 = .ok (.invokevirtual 290, 3) := by decide +kernel
theorem dX7_renderLock_31 : decode cX7_renderLock 31 = .ok (.pop, 1) := by decide +kernel
theorem dX7_renderLock_32 : decode cX7_renderLock 32 = .ok (.aload_n 0, 1) := by decide +kernel
theorem dX7_renderLock_33 : decode cX7_renderLock 33 = .ok (.aload_n 2, 1) := by decide +kernel
theorem dX7_renderLock_34 : decode cX7_renderLock 34 = .ok (.getfield 150, 3) := by decide +kernel
theorem dX7_renderLock_37 : decode cX7_renderLock 37 = .ok (.invokevirtual 286, 3) := by decide +kernel
theorem dX7_renderLock_40 : decode cX7_renderLock 40 = .ok (.aload_n 0, 1) := by decide +kernel
theorem dX7_renderLock_41 : decode cX7_renderLock 41 = .ok (.getfield 39, 3) := by decide +kernel
theorem dX7_renderLock_44 : decode cX7_renderLock 44 = .ok (.bipush 99, 2) := by decide +kernel
theorem dX7_renderLock_46 : decode cX7_renderLock 46 = .ok (.invokevirtual 290, 3) := by decide +kernel
theorem dX7_renderLock_49 : decode cX7_renderLock 49 = .ok (.aload_n 2, 1) := by decide +kernel
theorem dX7_renderLock_50 : decode cX7_renderLock 50 = .ok (.getfield 160, 3) := by decide +kernel
theorem dX7_renderLock_53 : decode cX7_renderLock 53 = .ok (.invokevirtual 294, 3) := by decide +kernel
theorem dX7_renderLock_56 : decode cX7_renderLock 56 = .ok (.pop, 1) := by decide +kernel
theorem dX7_renderLock_57 : decode cX7_renderLock 57 = .ok (.aload_n 0, 1) := by decide +kernel
theorem dX7_renderLock_58 : decode cX7_renderLock 58 = .ok (.getfield 10, 3) := by decide +kernel
theorem dX7_renderLock_61 : decode cX7_renderLock 61 = .ok (.iload_n 1, 1) := by decide +kernel
theorem dX7_renderLock_62 : decode cX7_renderLock 62 = .ok (.invokevirtual 227, 3) := by decide +kernel
theorem dX7_renderLock_65 : decode cX7_renderLock 65 = .ok (.ifCond .eq 16, 3) := by decide +kernel
theorem dX7_renderLock_68 : decode cX7_renderLock 68 = .ok (.aload_n 0, 1) := by decide +kernel
theorem dX7_renderLock_69 : decode cX7_renderLock 69 = .ok (.getfield 39, 3) := by decide +kernel
theorem dX7_renderLock_72 : decode cX7_renderLock 72 = .ok (.bipush 98, 2) := by decide +kernel
theorem dX7_renderLock_74 : decode cX7_renderLock 74 = .ok (.invokevirtual 290, 3) := by decide +kernel
theorem dX7_renderLock_77 : decode cX7_renderLock 77 = .ok (.pop, 1) := by decide +kernel
theorem dX7_renderLock_78 : decode cX7_renderLock 78 = .ok (.goto 25, 3) := by decide +kernel
theorem dX7_renderLock_81 : decode cX7_renderLock 81 = .ok (.aload_n 0, 1) := by decide +kernel
theorem dX7_renderLock_82 : decode cX7_renderLock 82 = .ok (.getfield 39, 3) := by decide +kernel
theorem dX7_renderLock_85 : decode cX7_renderLock 85 = .ok (.aload_n 2, 1) := by decide +kernel
theorem dX7_renderLock_86 : decode cX7_renderLock 86 = .ok (.getfield 153, 3) := by decide +kernel
theorem dX7_renderLock_89 : decode cX7_renderLock 89 = .ok (.ifCond .eq 8, 3) := by decide +kernel
theorem dX7_renderLock_92 : decode cX7_renderLock 92 = .ok (.bipush 111, 2) := by decide +kernel
theorem dX7_renderLock_94 : decode cX7_renderLock 94 = .ok (.goto 5, 3) := by decide +kernel
theorem dX7_renderLock_97 : decode cX7_renderLock 97 = .ok (.bipush 115, 2) := by decide +kernel
theorem dX7_renderLock_99 : decode cX7_renderLock 99 = .ok (.invokevirtual 290, 3) := by decide +kernel
theorem dX7_renderLock_102 : decode cX7_renderLock 102 = .ok (.pop, 1) := by decide +kernel
theorem dX7_renderLock_103 : decode cX7_renderLock 103 = .ok (.aload_n 0, 1) := by decide +kernel
theorem dX7_renderLock_104 : decode cX7_renderLock 104 = .ok (.getfield 39, 3) := by decide +kernel
theorem dX7_renderLock_107 : decode cX7_renderLock 107 = .ok (.invokevirtual 297, 3) := by decide +kernel
theorem dX7_renderLock_110 : decode cX7_renderLock 110 = .ok (.ireturn, 1) := by decide +kernel
theorem dX7_appendPositions_0 : decode cX7_appendPositions 0 = .ok (.iconst 0, 1) := by decide +kernel
theorem dX7_appendPositions_1 : decode cX7_appendPositions 1 = .ok (.istore_n 2, 1) := by decide +kernel
theorem dX7_appendPositions_2 : decode cX7_appendPositions 2 = .ok (.iload_n 2, 1) := by decide +kernel
theorem dX7_appendPositions_3 : decode cX7_appendPositions 3 = .ok (.iconst 3, 1) := by decide +kernel
theorem dX7_appendPositions_4 : decode cX7_appendPositions 4 = .ok (.if_icmp .ge 20, 3) := by decide +kernel
theorem dX7_appendPositions_7 : decode cX7_appendPositions 7 = .ok (.aload_n 0, 1) := by decide +kernel
theorem dX7_appendPositions_8 : decode cX7_appendPositions 8 = .ok (.getfield 39, 3) := by decide +kernel
theorem dX7_appendPositions_11 : decode cX7_appendPositions 11 = .ok (.aload_n 1, 1) := by decide +kernel
theorem dX7_appendPositions_12 : decode cX7_appendPositions 12 = .ok (.iload_n 2, 1) := by decide +kernel
theorem dX7_appendPositions_13 : decode cX7_appendPositions 13 = .ok (.iaload, 1) := by decide +kernel
theorem dX7_appendPositions_14 : decode cX7_appendPositions 14 = .ok (.invokevirtual 294, 3) := by decide +kernel
theorem dX7_appendPositions_17 : decode cX7_appendPositions 17 = .ok (.pop, 1) := by decide +kernel
theorem dX7_appendPositions_18 : decode cX7_appendPositions 18 = .ok (.iinc 2 1, 3) := by decide +kernel
theorem dX7_appendPositions_21 : decode cX7_appendPositions 21 = .ok (.goto (-19), 3) := by decide +kernel
theorem dX7_appendPositions_24 : decode cX7_appendPositions 24 = .ok (.return_, 1) := by decide +kernel
theorem dX7_renderOvens_0 : decode cX7_renderOvens 0 = .ok (.aload_n 0, 1) := by decide +kernel
theorem dX7_renderOvens_1 : decode cX7_renderOvens 1 = .ok (.getfield 39, 3) := by decide +kernel
theorem dX7_renderOvens_4 : decode cX7_renderOvens 4 = .ok (.iconst 0, 1) := by decide +kernel
theorem dX7_renderOvens_5 : decode cX7_renderOvens 5 = .ok (.invokevirtual 283, 3) := by decide +kernel
theorem dX7_renderOvens_8 : decode cX7_renderOvens 8 = .ok (.iconst 0, 1) := by decide +kernel
theorem dX7_renderOvens_9 : decode cX7_renderOvens 9 = .ok (.istore_n 1, 1) := by decide +kernel
theorem dX7_renderOvens_10 : decode cX7_renderOvens 10 = .ok (.iload_n 1, 1) := by decide +kernel
theorem dX7_renderOvens_11 : decode cX7_renderOvens 11 = .ok (.iconst 2, 1) := by decide +kernel
theorem dX7_renderOvens_12 : decode cX7_renderOvens 12 = .ok (.if_icmp .ge 97, 3) := by decide +kernel
theorem dX7_renderOvens_15 : decode cX7_renderOvens 15 = .ok (.iload_n 1, 1) := by decide +kernel
theorem dX7_renderOvens_16 : decode cX7_renderOvens 16 = .ok (.ifCond .le 13, 3) := by decide +kernel
theorem dX7_renderOvens_19 : decode cX7_renderOvens 19 = .ok (.aload_n 0, 1) := by decide +kernel
theorem dX7_renderOvens_20 : decode cX7_renderOvens 20 = .ok (.getfield 39, 3) := by decide +kernel
theorem dX7_renderOvens_23 : decode cX7_renderOvens 23 = .ok (.bipush 32, 2) := by decide +kernel
theorem dX7_renderOvens_25 : decode cX7_renderOvens 25 = .ok (.invokevirtual 290, 3) := by decide +kernel
theorem dX7_renderOvens_28 : decode cX7_renderOvens 28 = .ok (.pop, 1) := by decide +kernel
theorem dX7_renderOvens_29 : decode cX7_renderOvens 29 = .ok (.aload_n 0, 1) := by decide +kernel
theorem dX7_renderOvens_30 : decode cX7_renderOvens 30 = .ok (.getfield 39, 3) := by decide +kernel
theorem dX7_renderOvens_33 : decode cX7_renderOvens 33 = .ok (.iload_n 1, 1) := by decide +kernel
theorem dX7_renderOvens_34 : decode cX7_renderOvens 34 = .ok (.invokevirtual 294, 3) := by decide +kernel
theorem dX7_renderOvens_37 : decode cX7_renderOvens 37 = .ok (.bipush 58, 2) := by decide +kernel
theorem dX7_renderOvens_39 : decode cX7_renderOvens 39 = .ok (.invokevirtual 290, 3) := by decide +kernel
theorem dX7_renderOvens_42 : decode cX7_renderOvens 42 = .ok (.pop, 1) := by decide +kernel
theorem dX7_renderOvens_43 : decode cX7_renderOvens 43 = .ok (.aload_n 0, 1) := by decide +kernel
theorem dX7_renderOvens_44 : decode cX7_renderOvens 44 = .ok (.getfield 10, 3) := by decide +kernel
theorem dX7_renderOvens_47 : decode cX7_renderOvens 47 = .ok (.getfield 219, 3) := by decide +kernel
theorem dX7_renderOvens_50 : decode cX7_renderOvens 50 = .ok (.iload_n 1, 1) := by decide +kernel
theorem dX7_renderOvens_51 : decode cX7_renderOvens 51 = .ok (.iaload, 1) := by decide +kernel
theorem dX7_renderOvens_52 : decode cX7_renderOvens 52 = .ok (.iconst (-1), 1) := by decide +kernel
theorem dX7_renderOvens_53 : decode cX7_renderOvens 53 = .ok (.if_icmp .ne 16, 3) := by decide +kernel
theorem dX7_renderOvens_56 : decode cX7_renderOvens 56 = .ok (.aload_n 0, 1) := by decide +kernel
theorem dX7_renderOvens_57 : decode cX7_renderOvens 57 = .ok (.getfield 39, 3) := by decide +kernel
theorem dX7_renderOvens_60 : decode cX7_renderOvens 60 = .ok (.bipush 45, 2) := by decide +kernel
theorem dX7_renderOvens_62 : decode cX7_renderOvens 62 = .ok (.invokevirtual 290, 3) := by decide +kernel
theorem dX7_renderOvens_65 : decode cX7_renderOvens 65 = .ok (.pop, 1) := by decide +kernel
theorem dX7_renderOvens_66 : decode cX7_renderOvens 66 = .ok (.goto 37, 3) := by decide +kernel
theorem dX7_renderOvens_69 : decode cX7_renderOvens 69 = .ok (.aload_n 0, 1) := by decide +kernel
theorem dX7_renderOvens_70 : decode cX7_renderOvens 70 = .ok (.getfield 39, 3) := by decide +kernel
theorem dX7_renderOvens_73 : decode cX7_renderOvens 73 = .ok (.aload_n 0, 1) := by decide +kernel
theorem dX7_renderOvens_74 : decode cX7_renderOvens 74 = .ok (.getfield 10, 3) := by decide +kernel
theorem dX7_renderOvens_77 : decode cX7_renderOvens 77 = .ok (.getfield 219, 3) := by decide +kernel
theorem dX7_renderOvens_80 : decode cX7_renderOvens 80 = .ok (.iload_n 1, 1) := by decide +kernel
theorem dX7_renderOvens_81 : decode cX7_renderOvens 81 = .ok (.iaload, 1) := by decide +kernel
theorem dX7_renderOvens_82 : decode cX7_renderOvens 82 = .ok (.invokevirtual 294, 3) := by decide +kernel
theorem dX7_renderOvens_85 : decode cX7_renderOvens 85 = .ok (.bipush 120, 2) := by decide +kernel
theorem dX7_renderOvens_87 : decode cX7_renderOvens 87 = .ok (.invokevirtual 290, 3) := by decide +kernel
theorem dX7_renderOvens_90 : decode cX7_renderOvens 90 = .ok (.aload_n 0, 1) := by decide +kernel
theorem dX7_renderOvens_91 : decode cX7_renderOvens 91 = .ok (.getfield 10, 3) := by decide +kernel
theorem dX7_renderOvens_94 : decode cX7_renderOvens 94 = .ok (.getfield 224, 3) := by decide +kernel
theorem dX7_renderOvens_97 : decode cX7_renderOvens 97 = .ok (.iload_n 1, 1) := by decide +kernel
theorem dX7_renderOvens_98 : decode cX7_renderOvens 98 = .ok (.iaload, 1) := by decide +kernel
theorem dX7_renderOvens_99 : decode cX7_renderOvens 99 = .ok (.invokevirtual 294, 3) := by decide +kernel
theorem dX7_renderOvens_102 : decode cX7_renderOvens 102 = .ok (.pop, 1) := by decide +kernel
theorem dX7_renderOvens_103 : decode cX7_renderOvens 103 = .ok (.iinc 1 1, 3) := by decide +kernel
theorem dX7_renderOvens_106 : decode cX7_renderOvens 106 = .ok (.goto (-96), 3) := by decide +kernel
theorem dX7_renderOvens_109 : decode cX7_renderOvens 109 = .ok (.aload_n 0, 1) := by decide +kernel
theorem dX7_renderOvens_110 : decode cX7_renderOvens 110 = .ok (.getfield 39, 3) := by decide +kernel
theorem dX7_renderOvens_113 : decode cX7_renderOvens 113 = .ok (.invokevirtual 297, 3) := by decide +kernel
theorem dX7_renderOvens_116 : decode cX7_renderOvens 116 = .ok (.ireturn, 1) := by decide +kernel
theorem dX7_outputAt_0 : decode cX7_outputAt 0 = .ok (.iload_n 1, 1) := by decide +kernel
theorem dX7_outputAt_1 : decode cX7_outputAt 1 = .ok (.ifCond .lt 14, 3) := by decide +kernel
theorem dX7_outputAt_4 : decode cX7_outputAt 4 = .ok (.iload_n 1, 1) := by decide +kernel
theorem dX7_outputAt_5 : decode cX7_outputAt 5 = .ok (.aload_n 0, 1) := by decide +kernel
theorem dX7_outputAt_6 : decode cX7_outputAt 6 = .ok (.getfield 39, 3) := by decide +kernel
theorem dX7_outputAt_9 : decode cX7_outputAt 9 = .ok (.invokevirtual 297, 3) := by decide +kernel
theorem dX7_outputAt_12 : decode cX7_outputAt 12 = .ok (.if_icmp .lt 14, 3) := by decide +kernel
theorem dX7_outputAt_15 : decode cX7_outputAt 15 = .ok (.new 112, 3) := by decide +kernel
theorem dX7_outputAt_18 : decode cX7_outputAt 18 = .ok (.dup, 1) := by decide +kernel
theorem dX7_outputAt_19 : decode cX7_outputAt 19 = .ok (.ldc_w 300, 3) := by decide +kernel
theorem dX7_outputAt_22 : decode cX7_outputAt 22 = .ok (.invokespecial 116, 3) := by decide +kernel
theorem dX7_outputAt_25 : decode cX7_outputAt 25 = .ok (.athrow, 1) := by decide +kernel
theorem dX7_outputAt_26 : decode cX7_outputAt 26 = .ok (.aload_n 0, 1) := by decide +kernel
theorem dX7_outputAt_27 : decode cX7_outputAt 27 = .ok (.getfield 39, 3) := by decide +kernel
theorem dX7_outputAt_30 : decode cX7_outputAt 30 = .ok (.iload_n 1, 1) := by decide +kernel
theorem dX7_outputAt_31 : decode cX7_outputAt 31 = .ok (.invokevirtual 302, 3) := by decide +kernel
theorem dX7_outputAt_34 : decode cX7_outputAt 34 = .ok (.ireturn, 1) := by decide +kernel
theorem dX7_type_0 : decode cX7_type 0 = .ok (.iload_n 1, 1) := by decide +kernel
theorem dX7_type_1 : decode cX7_type 1 = .ok (.bipush 32, 2) := by decide +kernel
theorem dX7_type_3 : decode cX7_type 3 = .ok (.if_icmp .lt 9, 3) := by decide +kernel
theorem dX7_type_6 : decode cX7_type 6 = .ok (.iload_n 1, 1) := by decide +kernel
theorem dX7_type_7 : decode cX7_type 7 = .ok (.bipush 126, 2) := by decide +kernel
theorem dX7_type_9 : decode cX7_type 9 = .ok (.if_icmp .le 14, 3) := by decide +kernel
theorem dX7_type_12 : decode cX7_type 12 = .ok (.new 119, 3) := by decide +kernel
theorem dX7_type_15 : decode cX7_type 15 = .ok (.dup, 1) := by decide +kernel
theorem dX7_type_16 : decode cX7_type 16 = .ok (.ldc_w 306, 3) := by decide +kernel
theorem dX7_type_19 : decode cX7_type 19 = .ok (.invokespecial 123, 3) := by decide +kernel
theorem dX7_type_22 : decode cX7_type 22 = .ok (.athrow, 1) := by decide +kernel
theorem dX7_type_23 : decode cX7_type 23 = .ok (.aload_n 0, 1) := by decide +kernel
theorem dX7_type_24 : decode cX7_type 24 = .ok (.getfield 32, 3) := by decide +kernel
theorem dX7_type_27 : decode cX7_type 27 = .ok (.getfield 308, 3) := by decide +kernel
theorem dX7_type_30 : decode cX7_type 30 = .ok (.invokevirtual 297, 3) := by decide +kernel
theorem dX7_type_33 : decode cX7_type 33 = .ok (.bipush 60, 2) := by decide +kernel
theorem dX7_type_35 : decode cX7_type 35 = .ok (.if_icmp .lt 14, 3) := by decide +kernel
theorem dX7_type_38 : decode cX7_type 38 = .ok (.new 124, 3) := by decide +kernel
theorem dX7_type_41 : decode cX7_type 41 = .ok (.dup, 1) := by decide +kernel
theorem dX7_type_42 : decode cX7_type 42 = .ok (.ldc_w 311, 3) := by decide +kernel
theorem dX7_type_45 : decode cX7_type 45 = .ok (.invokespecial 128, 3) := by decide +kernel
theorem dX7_type_48 : decode cX7_type 48 = .ok (.athrow, 1) := by decide +kernel
theorem dX7_type_49 : decode cX7_type 49 = .ok (.aload_n 0, 1) := by decide +kernel
theorem dX7_type_50 : decode cX7_type 50 = .ok (.getfield 32, 3) := by decide +kernel
theorem dX7_type_53 : decode cX7_type 53 = .ok (.getfield 308, 3) := by decide +kernel
theorem dX7_type_56 : decode cX7_type 56 = .ok (.iload_n 1, 1) := by decide +kernel
theorem dX7_type_57 : decode cX7_type 57 = .ok (.invokevirtual 290, 3) := by decide +kernel
theorem dX7_type_60 : decode cX7_type 60 = .ok (.pop, 1) := by decide +kernel
theorem dX7_type_61 : decode cX7_type 61 = .ok (.aload_n 0, 1) := by decide +kernel
theorem dX7_type_62 : decode cX7_type 62 = .ok (.getfield 32, 3) := by decide +kernel
theorem dX7_type_65 : decode cX7_type 65 = .ok (.getfield 308, 3) := by decide +kernel
theorem dX7_type_68 : decode cX7_type 68 = .ok (.invokevirtual 297, 3) := by decide +kernel
theorem dX7_type_71 : decode cX7_type 71 = .ok (.ireturn, 1) := by decide +kernel
theorem dX7_runScript_0 : decode cX7_runScript 0 = .ok (.aload_n 0, 1) := by decide +kernel
theorem dX7_runScript_1 : decode cX7_runScript 1 = .ok (.getfield 32, 3) := by decide +kernel
theorem dX7_runScript_4 : decode cX7_runScript 4 = .ok (.invokevirtual 313, 3) := by decide +kernel
theorem dX7_runScript_7 : decode cX7_runScript 7 = .ok (.istore_n 1, 1) := by decide +kernel
theorem dX7_runScript_8 : decode cX7_runScript 8 = .ok (.iload_n 1, 1) := by decide +kernel
theorem dX7_runScript_9 : decode cX7_runScript 9 = .ok (.iconst (-1), 1) := by decide +kernel
theorem dX7_runScript_10 : decode cX7_runScript 10 = .ok (.if_icmp .ne 36, 3) := by decide +kernel
theorem dX7_runScript_13 : decode cX7_runScript 13 = .ok (.aload_n 0, 1) := by decide +kernel
theorem dX7_runScript_14 : decode cX7_runScript 14 = .ok (.aload_n 0, 1) := by decide +kernel
theorem dX7_runScript_15 : decode cX7_runScript 15 = .ok (.getfield 32, 3) := by decide +kernel
theorem dX7_runScript_18 : decode cX7_runScript 18 = .ok (.getfield 316, 3) := by decide +kernel
theorem dX7_runScript_21 : decode cX7_runScript 21 = .ok (.putfield 47, 3) := by decide +kernel
theorem dX7_runScript_24 : decode cX7_runScript 24 = .ok (.aload_n 0, 1) := by decide +kernel
theorem dX7_runScript_25 : decode cX7_runScript 25 = .ok (.getfield 32, 3) := by decide +kernel
theorem dX7_runScript_28 : decode cX7_runScript 28 = .ok (.getfield 308, 3) := by decide +kernel
theorem dX7_runScript_31 : decode cX7_runScript 31 = .ok (.iconst 0, 1) := by decide +kernel
theorem dX7_runScript_32 : decode cX7_runScript 32 = .ok (.invokevirtual 283, 3) := by decide +kernel
theorem dX7_runScript_35 : decode cX7_runScript 35 = .ok (.new 119, 3) := by decide +kernel
theorem dX7_runScript_38 : decode cX7_runScript 38 = .ok (.dup, 1) := by decide +kernel
theorem dX7_runScript_39 : decode cX7_runScript 39 = .ok (.ldc_w 319, 3) := by decide +kernel
theorem dX7_runScript_42 : decode cX7_runScript 42 = .ok (.invokespecial 123, 3) := by decide +kernel
theorem dX7_runScript_45 : decode cX7_runScript 45 = .ok (.athrow, 1) := by decide +kernel
theorem dX7_runScript_46 : decode cX7_runScript 46 = .ok (.aload_n 0, 1) := by decide +kernel
theorem dX7_runScript_47 : decode cX7_runScript 47 = .ok (.getfield 16, 3) := by decide +kernel
theorem dX7_runScript_50 : decode cX7_runScript 50 = .ok (.aload_n 0, 1) := by decide +kernel
theorem dX7_runScript_51 : decode cX7_runScript 51 = .ok (.getfield 10, 3) := by decide +kernel
theorem dX7_runScript_54 : decode cX7_runScript 54 = .ok (.invokevirtual 205, 3) := by decide +kernel
theorem dX7_runScript_57 : decode cX7_runScript 57 = .ok (.aload_n 0, 1) := by decide +kernel
theorem dX7_runScript_58 : decode cX7_runScript 58 = .ok (.iload_n 1, 1) := by decide +kernel
theorem dX7_runScript_59 : decode cX7_runScript 59 = .ok (.invokevirtual 321, 3) := by decide +kernel
theorem dX7_runScript_62 : decode cX7_runScript 62 = .ok (.istore_n 2, 1) := by decide +kernel
theorem dX7_runScript_63 : decode cX7_runScript 63 = .ok (.aload_n 0, 1) := by decide +kernel
theorem dX7_runScript_64 : decode cX7_runScript 64 = .ok (.getfield 32, 3) := by decide +kernel
theorem dX7_runScript_67 : decode cX7_runScript 67 = .ok (.getfield 308, 3) := by decide +kernel
theorem dX7_runScript_70 : decode cX7_runScript 70 = .ok (.iconst 0, 1) := by decide +kernel
theorem dX7_runScript_71 : decode cX7_runScript 71 = .ok (.invokevirtual 283, 3) := by decide +kernel
theorem dX7_runScript_74 : decode cX7_runScript 74 = .ok (.iload_n 2, 1) := by decide +kernel
theorem dX7_runScript_75 : decode cX7_runScript 75 = .ok (.iload_n 1, 1) := by decide +kernel
theorem dX7_runScript_76 : decode cX7_runScript 76 = .ok (.if_icmp .ge 30, 3) := by decide +kernel
theorem dX7_runScript_79 : decode cX7_runScript 79 = .ok (.aload_n 0, 1) := by decide +kernel
theorem dX7_runScript_80 : decode cX7_runScript 80 = .ok (.getfield 10, 3) := by decide +kernel
theorem dX7_runScript_83 : decode cX7_runScript 83 = .ok (.aload_n 0, 1) := by decide +kernel
theorem dX7_runScript_84 : decode cX7_runScript 84 = .ok (.getfield 16, 3) := by decide +kernel
theorem dX7_runScript_87 : decode cX7_runScript 87 = .ok (.invokevirtual 205, 3) := by decide +kernel
theorem dX7_runScript_90 : decode cX7_runScript 90 = .ok (.aload_n 0, 1) := by decide +kernel
theorem dX7_runScript_91 : decode cX7_runScript 91 = .ok (.iload_n 2, 1) := by decide +kernel
theorem dX7_runScript_92 : decode cX7_runScript 92 = .ok (.putfield 51, 3) := by decide +kernel
theorem dX7_runScript_95 : decode cX7_runScript 95 = .ok (.new 124, 3) := by decide +kernel
theorem dX7_runScript_98 : decode cX7_runScript 98 = .ok (.dup, 1) := by decide +kernel
theorem dX7_runScript_99 : decode cX7_runScript 99 = .ok (.ldc_w 324, 3) := by decide +kernel
theorem dX7_runScript_102 : decode cX7_runScript 102 = .ok (.invokespecial 128, 3) := by decide +kernel
theorem dX7_runScript_105 : decode cX7_runScript 105 = .ok (.athrow, 1) := by decide +kernel
theorem dX7_runScript_106 : decode cX7_runScript 106 = .ok (.aload_n 0, 1) := by decide +kernel
theorem dX7_runScript_107 : decode cX7_runScript 107 = .ok (.getfield 25, 3) := by decide +kernel
theorem dX7_runScript_110 : decode cX7_runScript 110 = .ok (.aload_n 0, 1) := by decide +kernel
theorem dX7_runScript_111 : decode cX7_runScript 111 = .ok (.getfield 16, 3) := by decide +kernel
theorem dX7_runScript_114 : decode cX7_runScript 114 = .ok (.invokevirtual 93, 3) := by decide +kernel
theorem dX7_runScript_117 : decode cX7_runScript 117 = .ok (.iload_n 1, 1) := by decide +kernel
theorem dX7_runScript_118 : decode cX7_runScript 118 = .ok (.ireturn, 1) := by decide +kernel
theorem dX7_carryOutCommands_0 : decode cX7_carryOutCommands 0 = .ok (.aload_n 0, 1) := by decide +kernel
theorem dX7_carryOutCommands_1 : decode cX7_carryOutCommands 1 = .ok (.getfield 32, 3) := by decide +kernel
theorem dX7_carryOutCommands_4 : decode cX7_carryOutCommands 4 = .ok (.getfield 326, 3) := by decide +kernel
theorem dX7_carryOutCommands_7 : decode cX7_carryOutCommands 7 = .ok (.astore_n 2, 1) := by decide +kernel
theorem dX7_carryOutCommands_8 : decode cX7_carryOutCommands 8 = .ok (.iconst 0, 1) := by decide +kernel
theorem dX7_carryOutCommands_9 : decode cX7_carryOutCommands 9 = .ok (.istore_n 3, 1) := by decide +kernel
theorem dX7_carryOutCommands_10 : decode cX7_carryOutCommands 10 = .ok (.iconst 0, 1) := by decide +kernel
theorem dX7_carryOutCommands_11 : decode cX7_carryOutCommands 11 = .ok (.istore 4, 2) := by decide +kernel
theorem dX7_carryOutCommands_13 : decode cX7_carryOutCommands 13 = .ok (.iload 4, 2) := by decide +kernel
theorem dX7_carryOutCommands_15 : decode cX7_carryOutCommands 15 = .ok (.iload_n 1, 1) := by decide +kernel
theorem dX7_carryOutCommands_16 : decode cX7_carryOutCommands 16 = .ok (.if_icmp .ge 93, 3) := by decide +kernel
theorem dX7_carryOutCommands_19 : decode cX7_carryOutCommands 19 = .ok (.aload_n 0, 1) := by decide +kernel
theorem dX7_carryOutCommands_20 : decode cX7_carryOutCommands 20 = .ok (.getfield 32, 3) := by decide +kernel
theorem dX7_carryOutCommands_23 : decode cX7_carryOutCommands 23 = .ok (.iload_n 3, 1) := by decide +kernel
theorem dX7_carryOutCommands_24 : decode cX7_carryOutCommands 24 = .ok (.invokevirtual 329, 3) := by decide +kernel
theorem dX7_carryOutCommands_27 : decode cX7_carryOutCommands 27 = .ok (.astore 5, 2) := by decide +kernel
theorem dX7_carryOutCommands_29 : decode cX7_carryOutCommands 29 = .ok (.aload 5, 2) := by decide +kernel
theorem dX7_carryOutCommands_31 : decode cX7_carryOutCommands 31 = .ok (.ifnonnull 6, 3) := by decide +kernel
theorem dX7_carryOutCommands_34 : decode cX7_carryOutCommands 34 = .ok (.iload 4, 2) := by decide +kernel
theorem dX7_carryOutCommands_36 : decode cX7_carryOutCommands 36 = .ok (.ireturn, 1) := by decide +kernel
theorem dX7_carryOutCommands_37 : decode cX7_carryOutCommands 37 = .ok (.aload_n 0, 1) := by decide +kernel
theorem dX7_carryOutCommands_38 : decode cX7_carryOutCommands 38 = .ok (.getfield 10, 3) := by decide +kernel
theorem dX7_carryOutCommands_41 : decode cX7_carryOutCommands 41 = .ok (.aload 5, 2) := by decide +kernel
theorem dX7_carryOutCommands_43 : decode cX7_carryOutCommands 43 = .ok (.aload_n 2, 1) := by decide +kernel
theorem dX7_carryOutCommands_44 : decode cX7_carryOutCommands 44 = .ok (.iconst 0, 1) := by decide +kernel
theorem dX7_carryOutCommands_45 : decode cX7_carryOutCommands 45 = .ok (.iaload, 1) := by decide +kernel
theorem dX7_carryOutCommands_46 : decode cX7_carryOutCommands 46 = .ok (.aload_n 2, 1) := by decide +kernel
theorem dX7_carryOutCommands_47 : decode cX7_carryOutCommands 47 = .ok (.iconst 1, 1) := by decide +kernel
theorem dX7_carryOutCommands_48 : decode cX7_carryOutCommands 48 = .ok (.iaload, 1) := by decide +kernel
theorem dX7_carryOutCommands_49 : decode cX7_carryOutCommands 49 = .ok (.aload_n 2, 1) := by decide +kernel
theorem dX7_carryOutCommands_50 : decode cX7_carryOutCommands 50 = .ok (.iconst 2, 1) := by decide +kernel
theorem dX7_carryOutCommands_51 : decode cX7_carryOutCommands 51 = .ok (.iaload, 1) := by decide +kernel
theorem dX7_carryOutCommands_52 : decode cX7_carryOutCommands 52 = .ok (.aload_n 2, 1) := by decide +kernel
theorem dX7_carryOutCommands_53 : decode cX7_carryOutCommands 53 = .ok (.iconst 3, 1) := by decide +kernel
theorem dX7_carryOutCommands_54 : decode cX7_carryOutCommands 54 = .ok (.iaload, 1) := by decide +kernel
theorem dX7_carryOutCommands_55 : decode cX7_carryOutCommands 55 = .ok (.invokevirtual 85, 3) := by decide +kernel
theorem dX7_carryOutCommands_58 : decode cX7_carryOutCommands 58 = .ok (.astore 6, 2) := by decide +kernel
theorem dX7_carryOutCommands_60 : decode cX7_carryOutCommands 60 = .ok (.aload 6, 2) := by decide +kernel
theorem dX7_carryOutCommands_62 : decode cX7_carryOutCommands 62 = .ok (.getstatic 333, 3) := by decide +kernel
theorem dX7_carryOutCommands_65 : decode cX7_carryOutCommands 65 = .ok (.if_acmp .eq 6, 3) := by decide +kernel
theorem dX7_carryOutCommands_68 : decode cX7_carryOutCommands 68 = .ok (.iload 4, 2) := by decide +kernel
theorem dX7_carryOutCommands_70 : decode cX7_carryOutCommands 70 = .ok (.ireturn, 1) := by decide +kernel
theorem dX7_carryOutCommands_71 : decode cX7_carryOutCommands 71 = .ok (.aload_n 0, 1) := by decide +kernel
theorem dX7_carryOutCommands_72 : decode cX7_carryOutCommands 72 = .ok (.getfield 10, 3) := by decide +kernel
theorem dX7_carryOutCommands_75 : decode cX7_carryOutCommands 75 = .ok (.aload 5, 2) := by decide +kernel
theorem dX7_carryOutCommands_77 : decode cX7_carryOutCommands 77 = .ok (.aload_n 2, 1) := by decide +kernel
theorem dX7_carryOutCommands_78 : decode cX7_carryOutCommands 78 = .ok (.iconst 0, 1) := by decide +kernel
theorem dX7_carryOutCommands_79 : decode cX7_carryOutCommands 79 = .ok (.iaload, 1) := by decide +kernel
theorem dX7_carryOutCommands_80 : decode cX7_carryOutCommands 80 = .ok (.aload_n 2, 1) := by decide +kernel
theorem dX7_carryOutCommands_81 : decode cX7_carryOutCommands 81 = .ok (.iconst 1, 1) := by decide +kernel
theorem dX7_carryOutCommands_82 : decode cX7_carryOutCommands 82 = .ok (.iaload, 1) := by decide +kernel
theorem dX7_carryOutCommands_83 : decode cX7_carryOutCommands 83 = .ok (.aload_n 2, 1) := by decide +kernel
theorem dX7_carryOutCommands_84 : decode cX7_carryOutCommands 84 = .ok (.iconst 2, 1) := by decide +kernel
theorem dX7_carryOutCommands_85 : decode cX7_carryOutCommands 85 = .ok (.iaload, 1) := by decide +kernel
theorem dX7_carryOutCommands_86 : decode cX7_carryOutCommands 86 = .ok (.aload_n 2, 1) := by decide +kernel
theorem dX7_carryOutCommands_87 : decode cX7_carryOutCommands 87 = .ok (.iconst 3, 1) := by decide +kernel
theorem dX7_carryOutCommands_88 : decode cX7_carryOutCommands 88 = .ok (.iaload, 1) := by decide +kernel
theorem dX7_carryOutCommands_89 : decode cX7_carryOutCommands 89 = .ok (.invokevirtual 97, 3) := by decide +kernel
theorem dX7_carryOutCommands_92 : decode cX7_carryOutCommands 92 = .ok (.pop, 1) := by decide +kernel
theorem dX7_carryOutCommands_93 : decode cX7_carryOutCommands 93 = .ok (.aload_n 0, 1) := by decide +kernel
theorem dX7_carryOutCommands_94 : decode cX7_carryOutCommands 94 = .ok (.getfield 32, 3) := by decide +kernel
theorem dX7_carryOutCommands_97 : decode cX7_carryOutCommands 97 = .ok (.getfield 316, 3) := by decide +kernel
theorem dX7_carryOutCommands_100 : decode cX7_carryOutCommands 100 = .ok (.iconst 1, 1) := by decide +kernel
theorem dX7_carryOutCommands_101 : decode cX7_carryOutCommands 101 = .ok (.iadd, 1) := by decide +kernel
theorem dX7_carryOutCommands_102 : decode cX7_carryOutCommands 102 = .ok (.istore_n 3, 1) := by decide +kernel
theorem dX7_carryOutCommands_103 : decode cX7_carryOutCommands 103 = .ok (.iinc 4 1, 3) := by decide +kernel
theorem dX7_carryOutCommands_106 : decode cX7_carryOutCommands 106 = .ok (.goto (-93), 3) := by decide +kernel
theorem dX7_carryOutCommands_109 : decode cX7_carryOutCommands 109 = .ok (.iload_n 1, 1) := by decide +kernel
theorem dX7_carryOutCommands_110 : decode cX7_carryOutCommands 110 = .ok (.ireturn, 1) := by decide +kernel
theorem dX7_errorPosition_0 : decode cX7_errorPosition 0 = .ok (.aload_n 0, 1) := by decide +kernel
theorem dX7_errorPosition_1 : decode cX7_errorPosition 1 = .ok (.getfield 47, 3) := by decide +kernel
theorem dX7_errorPosition_4 : decode cX7_errorPosition 4 = .ok (.iconst (-1), 1) := by decide +kernel
theorem dX7_errorPosition_5 : decode cX7_errorPosition 5 = .ok (.if_icmp .ne 14, 3) := by decide +kernel
theorem dX7_errorPosition_8 : decode cX7_errorPosition 8 = .ok (.new 198, 3) := by decide +kernel
theorem dX7_errorPosition_11 : decode cX7_errorPosition 11 = .ok (.dup, 1) := by decide +kernel
theorem dX7_errorPosition_12 : decode cX7_errorPosition 12 = .ok (.ldc_w 337, 3) := by decide +kernel
theorem dX7_errorPosition_15 : decode cX7_errorPosition 15 = .ok (.invokespecial 202, 3) := by decide +kernel
theorem dX7_errorPosition_18 : decode cX7_errorPosition 18 = .ok (.athrow, 1) := by decide +kernel
theorem dX7_errorPosition_19 : decode cX7_errorPosition 19 = .ok (.aload_n 0, 1) := by decide +kernel
theorem dX7_errorPosition_20 : decode cX7_errorPosition 20 = .ok (.getfield 47, 3) := by decide +kernel
theorem dX7_errorPosition_23 : decode cX7_errorPosition 23 = .ok (.ireturn, 1) := by decide +kernel
theorem dX7_failedCommand_0 : decode cX7_failedCommand 0 = .ok (.aload_n 0, 1) := by decide +kernel
theorem dX7_failedCommand_1 : decode cX7_failedCommand 1 = .ok (.getfield 51, 3) := by decide +kernel
theorem dX7_failedCommand_4 : decode cX7_failedCommand 4 = .ok (.iconst (-1), 1) := by decide +kernel
theorem dX7_failedCommand_5 : decode cX7_failedCommand 5 = .ok (.if_icmp .ne 14, 3) := by decide +kernel
theorem dX7_failedCommand_8 : decode cX7_failedCommand 8 = .ok (.new 198, 3) := by decide +kernel
theorem dX7_failedCommand_11 : decode cX7_failedCommand 11 = .ok (.dup, 1) := by decide +kernel
theorem dX7_failedCommand_12 : decode cX7_failedCommand 12 = .ok (.ldc_w 339, 3) := by decide +kernel
theorem dX7_failedCommand_15 : decode cX7_failedCommand 15 = .ok (.invokespecial 202, 3) := by decide +kernel
theorem dX7_failedCommand_18 : decode cX7_failedCommand 18 = .ok (.athrow, 1) := by decide +kernel
theorem dX7_failedCommand_19 : decode cX7_failedCommand 19 = .ok (.aload_n 0, 1) := by decide +kernel
theorem dX7_failedCommand_20 : decode cX7_failedCommand 20 = .ok (.getfield 51, 3) := by decide +kernel
theorem dX7_failedCommand_23 : decode cX7_failedCommand 23 = .ok (.ireturn, 1) := by decide +kernel
theorem dX7_undo_0 : decode cX7_undo 0 = .ok (.aload_n 0, 1) := by decide +kernel
theorem dX7_undo_1 : decode cX7_undo 1 = .ok (.getfield 25, 3) := by decide +kernel
theorem dX7_undo_4 : decode cX7_undo 4 = .ok (.getfield 341, 3) := by decide +kernel
theorem dX7_undo_7 : decode cX7_undo 7 = .ok (.ifCond .ne 14, 3) := by decide +kernel
theorem dX7_undo_10 : decode cX7_undo 10 = .ok (.new 198, 3) := by decide +kernel
theorem dX7_undo_13 : decode cX7_undo 13 = .ok (.dup, 1) := by decide +kernel
theorem dX7_undo_14 : decode cX7_undo 14 = .ok (.ldc_w 344, 3) := by decide +kernel
theorem dX7_undo_17 : decode cX7_undo 17 = .ok (.invokespecial 202, 3) := by decide +kernel
theorem dX7_undo_20 : decode cX7_undo 20 = .ok (.athrow, 1) := by decide +kernel
theorem dX7_undo_21 : decode cX7_undo 21 = .ok (.aload_n 0, 1) := by decide +kernel
theorem dX7_undo_22 : decode cX7_undo 22 = .ok (.getfield 25, 3) := by decide +kernel
theorem dX7_undo_25 : decode cX7_undo 25 = .ok (.aload_n 0, 1) := by decide +kernel
theorem dX7_undo_26 : decode cX7_undo 26 = .ok (.getfield 10, 3) := by decide +kernel
theorem dX7_undo_29 : decode cX7_undo 29 = .ok (.invokevirtual 346, 3) := by decide +kernel
theorem dX7_undo_32 : decode cX7_undo 32 = .ok (.aload_n 0, 1) := by decide +kernel
theorem dX7_undo_33 : decode cX7_undo 33 = .ok (.getfield 25, 3) := by decide +kernel
theorem dX7_undo_36 : decode cX7_undo 36 = .ok (.getfield 341, 3) := by decide +kernel
theorem dX7_undo_39 : decode cX7_undo 39 = .ok (.ireturn, 1) := by decide +kernel
theorem dX7_save_0 : decode cX7_save 0 = .ok (.aload_n 0, 1) := by decide +kernel
theorem dX7_save_1 : decode cX7_save 1 = .ok (.getfield 19, 3) := by decide +kernel
theorem dX7_save_4 : decode cX7_save 4 = .ok (.aload_n 0, 1) := by decide +kernel
theorem dX7_save_5 : decode cX7_save 5 = .ok (.getfield 10, 3) := by decide +kernel
theorem dX7_save_8 : decode cX7_save 8 = .ok (.invokevirtual 205, 3) := by decide +kernel
theorem dX7_save_11 : decode cX7_save 11 = .ok (.aload_n 0, 1) := by decide +kernel
theorem dX7_save_12 : decode cX7_save 12 = .ok (.iconst 1, 1) := by decide +kernel
theorem dX7_save_13 : decode cX7_save 13 = .ok (.putfield 43, 3) := by decide +kernel
theorem dX7_save_16 : decode cX7_save 16 = .ok (.aload_n 0, 1) := by decide +kernel
theorem dX7_save_17 : decode cX7_save 17 = .ok (.getfield 10, 3) := by decide +kernel
theorem dX7_save_20 : decode cX7_save 20 = .ok (.getfield 134, 3) := by decide +kernel
theorem dX7_save_23 : decode cX7_save 23 = .ok (.ireturn, 1) := by decide +kernel
theorem dX7_restore_0 : decode cX7_restore 0 = .ok (.aload_n 0, 1) := by decide +kernel
theorem dX7_restore_1 : decode cX7_restore 1 = .ok (.getfield 43, 3) := by decide +kernel
theorem dX7_restore_4 : decode cX7_restore 4 = .ok (.ifCond .ne 14, 3) := by decide +kernel
theorem dX7_restore_7 : decode cX7_restore 7 = .ok (.new 124, 3) := by decide +kernel
theorem dX7_restore_10 : decode cX7_restore 10 = .ok (.dup, 1) := by decide +kernel
theorem dX7_restore_11 : decode cX7_restore 11 = .ok (.ldc_w 349, 3) := by decide +kernel
theorem dX7_restore_14 : decode cX7_restore 14 = .ok (.invokespecial 128, 3) := by decide +kernel
theorem dX7_restore_17 : decode cX7_restore 17 = .ok (.athrow, 1) := by decide +kernel
theorem dX7_restore_18 : decode cX7_restore 18 = .ok (.aload_n 0, 1) := by decide +kernel
theorem dX7_restore_19 : decode cX7_restore 19 = .ok (.getfield 10, 3) := by decide +kernel
theorem dX7_restore_22 : decode cX7_restore 22 = .ok (.aload_n 0, 1) := by decide +kernel
theorem dX7_restore_23 : decode cX7_restore 23 = .ok (.getfield 19, 3) := by decide +kernel
theorem dX7_restore_26 : decode cX7_restore 26 = .ok (.invokevirtual 205, 3) := by decide +kernel
theorem dX7_restore_29 : decode cX7_restore 29 = .ok (.aload_n 0, 1) := by decide +kernel
theorem dX7_restore_30 : decode cX7_restore 30 = .ok (.getfield 25, 3) := by decide +kernel
theorem dX7_restore_33 : decode cX7_restore 33 = .ok (.iconst 0, 1) := by decide +kernel
theorem dX7_restore_34 : decode cX7_restore 34 = .ok (.putfield 341, 3) := by decide +kernel
theorem dX7_restore_37 : decode cX7_restore 37 = .ok (.aload_n 0, 1) := by decide +kernel
theorem dX7_restore_38 : decode cX7_restore 38 = .ok (.getfield 10, 3) := by decide +kernel
theorem dX7_restore_41 : decode cX7_restore 41 = .ok (.getfield 134, 3) := by decide +kernel
theorem dX7_restore_44 : decode cX7_restore 44 = .ok (.ireturn, 1) := by decide +kernel
theorem dX7_isDial_0 : decode cX7_isDial 0 = .ok (.iload_n 0, 1) := by decide +kernel
theorem dX7_isDial_1 : decode cX7_isDial 1 = .ok (.ifCond .lt 12, 3) := by decide +kernel
theorem dX7_isDial_4 : decode cX7_isDial 4 = .ok (.iload_n 0, 1) := by decide +kernel
theorem dX7_isDial_5 : decode cX7_isDial 5 = .ok (.iconst 3, 1) := by decide +kernel
theorem dX7_isDial_6 : decode cX7_isDial 6 = .ok (.if_icmp .ge 7, 3) := by decide +kernel
theorem dX7_isDial_9 : decode cX7_isDial 9 = .ok (.iconst 1, 1) := by decide +kernel
theorem dX7_isDial_10 : decode cX7_isDial 10 = .ok (.goto 4, 3) := by decide +kernel
theorem dX7_isDial_13 : decode cX7_isDial 13 = .ok (.iconst 0, 1) := by decide +kernel
theorem dX7_isDial_14 : decode cX7_isDial 14 = .ok (.ireturn, 1) := by decide +kernel
theorem dX7_isOven_0 : decode cX7_isOven 0 = .ok (.iload_n 0, 1) := by decide +kernel
theorem dX7_isOven_1 : decode cX7_isOven 1 = .ok (.ifCond .lt 12, 3) := by decide +kernel
theorem dX7_isOven_4 : decode cX7_isOven 4 = .ok (.iload_n 0, 1) := by decide +kernel
theorem dX7_isOven_5 : decode cX7_isOven 5 = .ok (.iconst 2, 1) := by decide +kernel
theorem dX7_isOven_6 : decode cX7_isOven 6 = .ok (.if_icmp .ge 7, 3) := by decide +kernel
theorem dX7_isOven_9 : decode cX7_isOven 9 = .ok (.iconst 1, 1) := by decide +kernel
theorem dX7_isOven_10 : decode cX7_isOven 10 = .ok (.goto 4, 3) := by decide +kernel
theorem dX7_isOven_13 : decode cX7_isOven 13 = .ok (.iconst 0, 1) := by decide +kernel
theorem dX7_isOven_14 : decode cX7_isOven 14 = .ok (.ireturn, 1) := by decide +kernel
theorem dX7_isPosition_0 : decode cX7_isPosition 0 = .ok (.iload_n 0, 1) := by decide +kernel
theorem dX7_isPosition_1 : decode cX7_isPosition 1 = .ok (.ifCond .lt 13, 3) := by decide +kernel
theorem dX7_isPosition_4 : decode cX7_isPosition 4 = .ok (.iload_n 0, 1) := by decide +kernel
theorem dX7_isPosition_5 : decode cX7_isPosition 5 = .ok (.bipush 10, 2) := by decide +kernel
theorem dX7_isPosition_7 : decode cX7_isPosition 7 = .ok (.if_icmp .ge 7, 3) := by decide +kernel
theorem dX7_isPosition_10 : decode cX7_isPosition 10 = .ok (.iconst 1, 1) := by decide +kernel
theorem dX7_isPosition_11 : decode cX7_isPosition 11 = .ok (.goto 4, 3) := by decide +kernel
theorem dX7_isPosition_14 : decode cX7_isPosition 14 = .ok (.iconst 0, 1) := by decide +kernel
theorem dX7_isPosition_15 : decode cX7_isPosition 15 = .ok (.ireturn, 1) := by decide +kernel
theorem dX7_areNoPositions_0 : decode cX7_areNoPositions 0 = .ok (.iload_n 0, 1) := by decide +kernel
theorem dX7_areNoPositions_1 : decode cX7_areNoPositions 1 = .ok (.invokestatic 351, 3) := by decide +kernel
theorem dX7_areNoPositions_4 : decode cX7_areNoPositions 4 = .ok (.ifCond .eq 17, 3) := by decide +kernel
theorem dX7_areNoPositions_7 : decode cX7_areNoPositions 7 = .ok (.iload_n 1, 1) := by decide +kernel
theorem dX7_areNoPositions_8 : decode cX7_areNoPositions 8 = .ok (.invokestatic 351, 3) := by decide +kernel
theorem dX7_areNoPositions_11 : decode cX7_areNoPositions 11 = .ok (.ifCond .eq 10, 3) := by decide +kernel
theorem dX7_areNoPositions_14 : decode cX7_areNoPositions 14 = .ok (.iload_n 2, 1) := by decide +kernel
theorem dX7_areNoPositions_15 : decode cX7_areNoPositions 15 = .ok (.invokestatic 351, 3) := by decide +kernel
theorem dX7_areNoPositions_18 : decode cX7_areNoPositions 18 = .ok (.ifCond .ne 7, 3) := by decide +kernel
theorem dX7_areNoPositions_21 : decode cX7_areNoPositions 21 = .ok (.iconst 1, 1) := by decide +kernel
theorem dX7_areNoPositions_22 : decode cX7_areNoPositions 22 = .ok (.goto 4, 3) := by decide +kernel
theorem dX7_areNoPositions_25 : decode cX7_areNoPositions 25 = .ok (.iconst 0, 1) := by decide +kernel
theorem dX7_areNoPositions_26 : decode cX7_areNoPositions 26 = .ok (.ireturn, 1) := by decide +kernel
theorem dX8_init_0 : decode cX8_init 0 = .ok (.aload_n 0, 1) := by decide +kernel
theorem dX8_init_1 : decode cX8_init 1 = .ok (.invokespecial 3, 3) := by decide +kernel
theorem dX8_init_4 : decode cX8_init 4 = .ok (.aload_n 0, 1) := by decide +kernel
theorem dX8_init_5 : decode cX8_init 5 = .ok (.bipush 85, 2) := by decide +kernel
theorem dX8_init_7 : decode cX8_init 7 = .ok (.newarray .int, 2) := by decide +kernel
theorem dX8_init_9 : decode cX8_init 9 = .ok (.putfield 9, 3) := by decide +kernel
theorem dX8_init_12 : decode cX8_init 12 = .ok (.aload_n 0, 1) := by decide +kernel
theorem dX8_init_13 : decode cX8_init 13 = .ok (.bipush 85, 2) := by decide +kernel
theorem dX8_init_15 : decode cX8_init 15 = .ok (.newarray .int, 2) := by decide +kernel
theorem dX8_init_17 : decode cX8_init 17 = .ok (.putfield 13, 3) := by decide +kernel
theorem dX8_init_20 : decode cX8_init 20 = .ok (.aload_n 0, 1) := by decide +kernel
theorem dX8_init_21 : decode cX8_init 21 = .ok (.bipush 85, 2) := by decide +kernel
theorem dX8_init_23 : decode cX8_init 23 = .ok (.newarray .int, 2) := by decide +kernel
theorem dX8_init_25 : decode cX8_init 25 = .ok (.putfield 16, 3) := by decide +kernel
theorem dX8_init_28 : decode cX8_init 28 = .ok (.aload_n 0, 1) := by decide +kernel
theorem dX8_init_29 : decode cX8_init 29 = .ok (.bipush 85, 2) := by decide +kernel
theorem dX8_init_31 : decode cX8_init 31 = .ok (.newarray .int, 2) := by decide +kernel
theorem dX8_init_33 : decode cX8_init 33 = .ok (.putfield 19, 3) := by decide +kernel
theorem dX8_init_36 : decode cX8_init 36 = .ok (.aload_n 0, 1) := by decide +kernel
theorem dX8_init_37 : decode cX8_init 37 = .ok (.sipush 680, 3) := by decide +kernel
theorem dX8_init_40 : decode cX8_init 40 = .ok (.newarray .int, 2) := by decide +kernel
theorem dX8_init_42 : decode cX8_init 42 = .ok (.putfield 22, 3) := by decide +kernel
theorem dX8_init_45 : decode cX8_init 45 = .ok (.aload_n 0, 1) := by decide +kernel
theorem dX8_init_46 : decode cX8_init 46 = .ok (.iconst (-1), 1) := by decide +kernel
theorem dX8_init_47 : decode cX8_init 47 = .ok (.putfield 25, 3) := by decide +kernel
theorem dX8_init_50 : decode cX8_init 50 = .ok (.aload_n 0, 1) := by decide +kernel
theorem dX8_init_51 : decode cX8_init 51 = .ok (.iconst (-1), 1) := by decide +kernel
theorem dX8_init_52 : decode cX8_init 52 = .ok (.putfield 29, 3) := by decide +kernel
theorem dX8_init_55 : decode cX8_init 55 = .ok (.aload_n 0, 1) := by decide +kernel
theorem dX8_init_56 : decode cX8_init 56 = .ok (.bipush 30, 2) := by decide +kernel
theorem dX8_init_58 : decode cX8_init 58 = .ok (.newarray .int, 2) := by decide +kernel
theorem dX8_init_60 : decode cX8_init 60 = .ok (.putfield 32, 3) := by decide +kernel
theorem dX8_init_63 : decode cX8_init 63 = .ok (.aload_n 0, 1) := by decide +kernel
theorem dX8_init_64 : decode cX8_init 64 = .ok (.bipush 60, 2) := by decide +kernel
theorem dX8_init_66 : decode cX8_init 66 = .ok (.newarray .int, 2) := by decide +kernel
theorem dX8_init_68 : decode cX8_init 68 = .ok (.putfield 35, 3) := by decide +kernel
theorem dX8_init_71 : decode cX8_init 71 = .ok (.aload_n 0, 1) := by decide +kernel
theorem dX8_init_72 : decode cX8_init 72 = .ok (.sipush 155, 3) := by decide +kernel
theorem dX8_init_75 : decode cX8_init 75 = .ok (.newarray .int, 2) := by decide +kernel
theorem dX8_init_77 : decode cX8_init 77 = .ok (.putfield 38, 3) := by decide +kernel
theorem dX8_init_80 : decode cX8_init 80 = .ok (.return_, 1) := by decide +kernel
theorem dX8_thrown_0 : decode cX8_thrown 0 = .ok (.aload_n 0, 1) := by decide +kernel
theorem dX8_thrown_1 : decode cX8_thrown 1 = .ok (.getfield 41, 3) := by decide +kernel
theorem dX8_thrown_4 : decode cX8_thrown 4 = .ok (.ireturn, 1) := by decide +kernel
theorem dX8_isIn_0 : decode cX8_isIn 0 = .ok (.iload_n 0, 1) := by decide +kernel
theorem dX8_isIn_1 : decode cX8_isIn 1 = .ok (.iload_n 1, 1) := by decide +kernel
theorem dX8_isIn_2 : decode cX8_isIn 2 = .ok (.if_icmp .lt 12, 3) := by decide +kernel
theorem dX8_isIn_5 : decode cX8_isIn 5 = .ok (.iload_n 0, 1) := by decide +kernel
theorem dX8_isIn_6 : decode cX8_isIn 6 = .ok (.iload_n 2, 1) := by decide +kernel
theorem dX8_isIn_7 : decode cX8_isIn 7 = .ok (.if_icmp .gt 7, 3) := by decide +kernel
theorem dX8_isIn_10 : decode cX8_isIn 10 = .ok (.iconst 1, 1) := by decide +kernel
theorem dX8_isIn_11 : decode cX8_isIn 11 = .ok (.goto 4, 3) := by decide +kernel
theorem dX8_isIn_14 : decode cX8_isIn 14 = .ok (.iconst 0, 1) := by decide +kernel
theorem dX8_isIn_15 : decode cX8_isIn 15 = .ok (.ireturn, 1) := by decide +kernel
theorem dX8_copies_0 : decode cX8_copies 0 = .ok (.iconst 0, 1) := by decide +kernel
theorem dX8_copies_1 : decode cX8_copies 1 = .ok (.istore 4, 2) := by decide +kernel
theorem dX8_copies_3 : decode cX8_copies 3 = .ok (.iload 4, 2) := by decide +kernel
theorem dX8_copies_5 : decode cX8_copies 5 = .ok (.bipush 85, 2) := by decide +kernel
theorem dX8_copies_7 : decode cX8_copies 7 = .ok (.if_icmp .ge 21, 3) := by decide +kernel
theorem dX8_copies_10 : decode cX8_copies 10 = .ok (.aload_n 2, 1) := by decide +kernel
theorem dX8_copies_11 : decode cX8_copies 11 = .ok (.iload_n 3, 1) := by decide +kernel
theorem dX8_copies_12 : decode cX8_copies 12 = .ok (.iload 4, 2) := by decide +kernel
theorem dX8_copies_14 : decode cX8_copies 14 = .ok (.iadd, 1) := by decide +kernel
theorem dX8_copies_15 : decode cX8_copies 15 = .ok (.aload_n 0, 1) := by decide +kernel
theorem dX8_copies_16 : decode cX8_copies 16 = .ok (.iload_n 1, 1) := by decide +kernel
theorem dX8_copies_17 : decode cX8_copies 17 = .ok (.iload 4, 2) := by decide +kernel
theorem dX8_copies_19 : decode cX8_copies 19 = .ok (.iadd, 1) := by decide +kernel
theorem dX8_copies_20 : decode cX8_copies 20 = .ok (.iaload, 1) := by decide +kernel
theorem dX8_copies_21 : decode cX8_copies 21 = .ok (.iastore, 1) := by decide +kernel
theorem dX8_copies_22 : decode cX8_copies 22 = .ok (.iinc 4 1, 3) := by decide +kernel
theorem dX8_copies_25 : decode cX8_copies 25 = .ok (.goto (-22), 3) := by decide +kernel
theorem dX8_copies_28 : decode cX8_copies 28 = .ok (.return_, 1) := by decide +kernel
theorem dX8_keeps_0 : decode cX8_keeps 0 = .ok (.aload_n 0, 1) := by decide +kernel
theorem dX8_keeps_1 : decode cX8_keeps 1 = .ok (.getfield 9, 3) := by decide +kernel
theorem dX8_keeps_4 : decode cX8_keeps 4 = .ok (.iconst 0, 1) := by decide +kernel
theorem dX8_keeps_5 : decode cX8_keeps 5 = .ok (.aload_n 0, 1) := by decide +kernel
theorem dX8_keeps_6 : decode cX8_keeps 6 = .ok (.getfield 13, 3) := by decide +kernel
theorem dX8_keeps_9 : decode cX8_keeps 9 = .ok (.iconst 0, 1) := by decide +kernel
theorem dX8_keeps_10 : decode cX8_keeps 10 = .ok (.invokestatic 44, 3) := by decide +kernel
theorem dX8_keeps_13 : decode cX8_keeps 13 = .ok (.aload_n 0, 1) := by decide +kernel
theorem dX8_keeps_14 : decode cX8_keeps 14 = .ok (.iconst 0, 1) := by decide +kernel
theorem dX8_keeps_15 : decode cX8_keeps 15 = .ok (.putfield 41, 3) := by decide +kernel
theorem dX8_keeps_18 : decode cX8_keeps 18 = .ok (.return_, 1) := by decide +kernel
theorem dX8_ends_0 : decode cX8_ends 0 = .ok (.aload_n 0, 1) := by decide +kernel
theorem dX8_ends_1 : decode cX8_ends 1 = .ok (.getfield 41, 3) := by decide +kernel
theorem dX8_ends_4 : decode cX8_ends 4 = .ok (.ifCond .eq 5, 3) := by decide +kernel
theorem dX8_ends_7 : decode cX8_ends 7 = .ok (.iconst 0, 1) := by decide +kernel
theorem dX8_ends_8 : decode cX8_ends 8 = .ok (.ireturn, 1) := by decide +kernel
theorem dX8_ends_9 : decode cX8_ends 9 = .ok (.aload_n 0, 1) := by decide +kernel
theorem dX8_ends_10 : decode cX8_ends 10 = .ok (.getfield 48, 3) := by decide +kernel
theorem dX8_ends_13 : decode cX8_ends 13 = .ok (.bipush 8, 2) := by decide +kernel
theorem dX8_ends_15 : decode cX8_ends 15 = .ok (.if_icmp .ne 48, 3) := by decide +kernel
theorem dX8_ends_18 : decode cX8_ends 18 = .ok (.iconst 1, 1) := by decide +kernel
theorem dX8_ends_19 : decode cX8_ends 19 = .ok (.istore_n 2, 1) := by decide +kernel
theorem dX8_ends_20 : decode cX8_ends 20 = .ok (.iload_n 2, 1) := by decide +kernel
theorem dX8_ends_21 : decode cX8_ends 21 = .ok (.bipush 8, 2) := by decide +kernel
theorem dX8_ends_23 : decode cX8_ends 23 = .ok (.if_icmp .ge 30, 3) := by decide +kernel
theorem dX8_ends_26 : decode cX8_ends 26 = .ok (.aload_n 0, 1) := by decide +kernel
theorem dX8_ends_27 : decode cX8_ends 27 = .ok (.getfield 22, 3) := by decide +kernel
theorem dX8_ends_30 : decode cX8_ends 30 = .ok (.bipush 85, 2) := by decide +kernel
theorem dX8_ends_32 : decode cX8_ends 32 = .ok (.iload_n 2, 1) := by decide +kernel
theorem dX8_ends_33 : decode cX8_ends 33 = .ok (.imul, 1) := by decide +kernel
theorem dX8_ends_34 : decode cX8_ends 34 = .ok (.aload_n 0, 1) := by decide +kernel
theorem dX8_ends_35 : decode cX8_ends 35 = .ok (.getfield 22, 3) := by decide +kernel
theorem dX8_ends_38 : decode cX8_ends 38 = .ok (.bipush 85, 2) := by decide +kernel
theorem dX8_ends_40 : decode cX8_ends 40 = .ok (.iload_n 2, 1) := by decide +kernel
theorem dX8_ends_41 : decode cX8_ends 41 = .ok (.iconst 1, 1) := by decide +kernel
theorem dX8_ends_42 : decode cX8_ends 42 = .ok (.isub, 1) := by decide +kernel
theorem dX8_ends_43 : decode cX8_ends 43 = .ok (.imul, 1) := by decide +kernel
theorem dX8_ends_44 : decode cX8_ends 44 = .ok (.invokestatic 44, 3) := by decide +kernel
theorem dX8_ends_47 : decode cX8_ends 47 = .ok (.iinc 2 1, 3) := by decide +kernel
theorem dX8_ends_50 : decode cX8_ends 50 = .ok (.goto (-30), 3) := by decide +kernel
theorem dX8_ends_53 : decode cX8_ends 53 = .ok (.aload_n 0, 1) := by decide +kernel
theorem dX8_ends_54 : decode cX8_ends 54 = .ok (.dup, 1) := by decide +kernel
theorem dX8_ends_55 : decode cX8_ends 55 = .ok (.getfield 48, 3) := by decide +kernel
theorem dX8_ends_58 : decode cX8_ends 58 = .ok (.iconst 1, 1) := by decide +kernel
theorem dX8_ends_59 : decode cX8_ends 59 = .ok (.isub, 1) := by decide +kernel
theorem dX8_ends_60 : decode cX8_ends 60 = .ok (.putfield 48, 3) := by decide +kernel
theorem dX8_ends_63 : decode cX8_ends 63 = .ok (.aload_n 0, 1) := by decide +kernel
theorem dX8_ends_64 : decode cX8_ends 64 = .ok (.getfield 13, 3) := by decide +kernel
theorem dX8_ends_67 : decode cX8_ends 67 = .ok (.iconst 0, 1) := by decide +kernel
theorem dX8_ends_68 : decode cX8_ends 68 = .ok (.aload_n 0, 1) := by decide +kernel
theorem dX8_ends_69 : decode cX8_ends 69 = .ok (.getfield 22, 3) := by decide +kernel
theorem dX8_ends_72 : decode cX8_ends 72 = .ok (.bipush 85, 2) := by decide +kernel
theorem dX8_ends_74 : decode cX8_ends 74 = .ok (.aload_n 0, 1) := by decide +kernel
theorem dX8_ends_75 : decode cX8_ends 75 = .ok (.getfield 48, 3) := by decide +kernel
theorem dX8_ends_78 : decode cX8_ends 78 = .ok (.imul, 1) := by decide +kernel
theorem dX8_ends_79 : decode cX8_ends 79 = .ok (.invokestatic 44, 3) := by decide +kernel
theorem dX8_ends_82 : decode cX8_ends 82 = .ok (.aload_n 0, 1) := by decide +kernel
theorem dX8_ends_83 : decode cX8_ends 83 = .ok (.dup, 1) := by decide +kernel
theorem dX8_ends_84 : decode cX8_ends 84 = .ok (.getfield 48, 3) := by decide +kernel
theorem dX8_ends_87 : decode cX8_ends 87 = .ok (.iconst 1, 1) := by decide +kernel
theorem dX8_ends_88 : decode cX8_ends 88 = .ok (.iadd, 1) := by decide +kernel
theorem dX8_ends_89 : decode cX8_ends 89 = .ok (.putfield 48, 3) := by decide +kernel
theorem dX8_ends_92 : decode cX8_ends 92 = .ok (.iload_n 1, 1) := by decide +kernel
theorem dX8_ends_93 : decode cX8_ends 93 = .ok (.ireturn, 1) := by decide +kernel
theorem dX8_isThrown_0 : decode cX8_isThrown 0 = .ok (.aload_n 0, 1) := by decide +kernel
theorem dX8_isThrown_1 : decode cX8_isThrown 1 = .ok (.iload_n 1, 1) := by decide +kernel
theorem dX8_isThrown_2 : decode cX8_isThrown 2 = .ok (.ifCond .eq 7, 3) := by decide +kernel
theorem dX8_isThrown_5 : decode cX8_isThrown 5 = .ok (.iload_n 2, 1) := by decide +kernel
theorem dX8_isThrown_6 : decode cX8_isThrown 6 = .ok (.goto 4, 3) := by decide +kernel
theorem dX8_isThrown_9 : decode cX8_isThrown 9 = .ok (.iconst 0, 1) := by decide +kernel
theorem dX8_isThrown_10 : decode cX8_isThrown 10 = .ok (.putfield 41, 3) := by decide +kernel
theorem dX8_isThrown_13 : decode cX8_isThrown 13 = .ok (.iload_n 1, 1) := by decide +kernel
theorem dX8_isThrown_14 : decode cX8_isThrown 14 = .ok (.ireturn, 1) := by decide +kernel
theorem dX8_of_0 : decode cX8_of 0 = .ok (.aload_n 0, 1) := by decide +kernel
theorem dX8_of_1 : decode cX8_of 1 = .ok (.getfield 9, 3) := by decide +kernel
theorem dX8_of_4 : decode cX8_of 4 = .ok (.bipush 7, 2) := by decide +kernel
theorem dX8_of_6 : decode cX8_of 6 = .ok (.bipush 9, 2) := by decide +kernel
theorem dX8_of_8 : decode cX8_of 8 = .ok (.iload_n 1, 1) := by decide +kernel
theorem dX8_of_9 : decode cX8_of 9 = .ok (.imul, 1) := by decide +kernel
theorem dX8_of_10 : decode cX8_of 10 = .ok (.iadd, 1) := by decide +kernel
theorem dX8_of_11 : decode cX8_of 11 = .ok (.iload_n 2, 1) := by decide +kernel
theorem dX8_of_12 : decode cX8_of 12 = .ok (.iadd, 1) := by decide +kernel
theorem dX8_of_13 : decode cX8_of 13 = .ok (.iaload, 1) := by decide +kernel
theorem dX8_of_14 : decode cX8_of 14 = .ok (.ireturn, 1) := by decide +kernel
theorem dX8_sets_0 : decode cX8_sets 0 = .ok (.aload_n 0, 1) := by decide +kernel
theorem dX8_sets_1 : decode cX8_sets 1 = .ok (.getfield 9, 3) := by decide +kernel
theorem dX8_sets_4 : decode cX8_sets 4 = .ok (.bipush 7, 2) := by decide +kernel
theorem dX8_sets_6 : decode cX8_sets 6 = .ok (.bipush 9, 2) := by decide +kernel
theorem dX8_sets_8 : decode cX8_sets 8 = .ok (.iload_n 1, 1) := by decide +kernel
theorem dX8_sets_9 : decode cX8_sets 9 = .ok (.imul, 1) := by decide +kernel
theorem dX8_sets_10 : decode cX8_sets 10 = .ok (.iadd, 1) := by decide +kernel
theorem dX8_sets_11 : decode cX8_sets 11 = .ok (.iload_n 2, 1) := by decide +kernel
theorem dX8_sets_12 : decode cX8_sets 12 = .ok (.iadd, 1) := by decide +kernel
theorem dX8_sets_13 : decode cX8_sets 13 = .ok (.iload_n 3, 1) := by decide +kernel
theorem dX8_sets_14 : decode cX8_sets 14 = .ok (.iastore, 1) := by decide +kernel
theorem dX8_sets_15 : decode cX8_sets 15 = .ok (.return_, 1) := by decide +kernel
theorem dX8_ofOven_0 : decode cX8_ofOven 0 = .ok (.aload_n 0, 1) := by decide +kernel
theorem dX8_ofOven_1 : decode cX8_ofOven 1 = .ok (.getfield 9, 3) := by decide +kernel
theorem dX8_ofOven_4 : decode cX8_ofOven 4 = .ok (.bipush 61, 2) := by decide +kernel
theorem dX8_ofOven_6 : decode cX8_ofOven 6 = .ok (.iconst 2, 1) := by decide +kernel
theorem dX8_ofOven_7 : decode cX8_ofOven 7 = .ok (.iload_n 1, 1) := by decide +kernel
theorem dX8_ofOven_8 : decode cX8_ofOven 8 = .ok (.imul, 1) := by decide +kernel
theorem dX8_ofOven_9 : decode cX8_ofOven 9 = .ok (.iadd, 1) := by decide +kernel
theorem dX8_ofOven_10 : decode cX8_ofOven 10 = .ok (.iload_n 2, 1) := by decide +kernel
theorem dX8_ofOven_11 : decode cX8_ofOven 11 = .ok (.iadd, 1) := by decide +kernel
theorem dX8_ofOven_12 : decode cX8_ofOven 12 = .ok (.iaload, 1) := by decide +kernel
theorem dX8_ofOven_13 : decode cX8_ofOven 13 = .ok (.ireturn, 1) := by decide +kernel
theorem dX8_setsOven_0 : decode cX8_setsOven 0 = .ok (.aload_n 0, 1) := by decide +kernel
theorem dX8_setsOven_1 : decode cX8_setsOven 1 = .ok (.getfield 9, 3) := by decide +kernel
theorem dX8_setsOven_4 : decode cX8_setsOven 4 = .ok (.bipush 61, 2) := by decide +kernel
theorem dX8_setsOven_6 : decode cX8_setsOven 6 = .ok (.iconst 2, 1) := by decide +kernel
theorem dX8_setsOven_7 : decode cX8_setsOven 7 = .ok (.iload_n 1, 1) := by decide +kernel
theorem dX8_setsOven_8 : decode cX8_setsOven 8 = .ok (.imul, 1) := by decide +kernel
theorem dX8_setsOven_9 : decode cX8_setsOven 9 = .ok (.iadd, 1) := by decide +kernel
theorem dX8_setsOven_10 : decode cX8_setsOven 10 = .ok (.iload_n 2, 1) := by decide +kernel
theorem dX8_setsOven_11 : decode cX8_setsOven 11 = .ok (.iadd, 1) := by decide +kernel
theorem dX8_setsOven_12 : decode cX8_setsOven 12 = .ok (.iload_n 3, 1) := by decide +kernel
theorem dX8_setsOven_13 : decode cX8_setsOven 13 = .ok (.iastore, 1) := by decide +kernel
theorem dX8_setsOven_14 : decode cX8_setsOven 14 = .ok (.return_, 1) := by decide +kernel
theorem dX8_isDoor_0 : decode cX8_isDoor 0 = .ok (.iload_n 1, 1) := by decide +kernel
theorem dX8_isDoor_1 : decode cX8_isDoor 1 = .ok (.iconst 0, 1) := by decide +kernel
theorem dX8_isDoor_2 : decode cX8_isDoor 2 = .ok (.aload_n 0, 1) := by decide +kernel
theorem dX8_isDoor_3 : decode cX8_isDoor 3 = .ok (.getfield 9, 3) := by decide +kernel
theorem dX8_isDoor_6 : decode cX8_isDoor 6 = .ok (.iconst 2, 1) := by decide +kernel
theorem dX8_isDoor_7 : decode cX8_isDoor 7 = .ok (.iaload, 1) := by decide +kernel
theorem dX8_isDoor_8 : decode cX8_isDoor 8 = .ok (.iconst 1, 1) := by decide +kernel
theorem dX8_isDoor_9 : decode cX8_isDoor 9 = .ok (.isub, 1) := by decide +kernel
theorem dX8_isDoor_10 : decode cX8_isDoor 10 = .ok (.invokestatic 51, 3) := by decide +kernel
theorem dX8_isDoor_13 : decode cX8_isDoor 13 = .ok (.ireturn, 1) := by decide +kernel
theorem dX8_isDial_0 : decode cX8_isDial 0 = .ok (.iload_n 0, 1) := by decide +kernel
theorem dX8_isDial_1 : decode cX8_isDial 1 = .ok (.iconst 0, 1) := by decide +kernel
theorem dX8_isDial_2 : decode cX8_isDial 2 = .ok (.iconst 2, 1) := by decide +kernel
theorem dX8_isDial_3 : decode cX8_isDial 3 = .ok (.invokestatic 51, 3) := by decide +kernel
theorem dX8_isDial_6 : decode cX8_isDial 6 = .ok (.ireturn, 1) := by decide +kernel
theorem dX8_isOven_0 : decode cX8_isOven 0 = .ok (.iload_n 0, 1) := by decide +kernel
theorem dX8_isOven_1 : decode cX8_isOven 1 = .ok (.iconst 0, 1) := by decide +kernel
theorem dX8_isOven_2 : decode cX8_isOven 2 = .ok (.iconst 1, 1) := by decide +kernel
theorem dX8_isOven_3 : decode cX8_isOven 3 = .ok (.invokestatic 51, 3) := by decide +kernel
theorem dX8_isOven_6 : decode cX8_isOven 6 = .ok (.ireturn, 1) := by decide +kernel
theorem dX8_isSetting_0 : decode cX8_isSetting 0 = .ok (.iload_n 0, 1) := by decide +kernel
theorem dX8_isSetting_1 : decode cX8_isSetting 1 = .ok (.iconst 0, 1) := by decide +kernel
theorem dX8_isSetting_2 : decode cX8_isSetting 2 = .ok (.bipush 9, 2) := by decide +kernel
theorem dX8_isSetting_4 : decode cX8_isSetting 4 = .ok (.invokestatic 51, 3) := by decide +kernel
theorem dX8_isSetting_7 : decode cX8_isSetting 7 = .ok (.ifCond .eq 27, 3) := by decide +kernel
theorem dX8_isSetting_10 : decode cX8_isSetting 10 = .ok (.iload_n 1, 1) := by decide +kernel
theorem dX8_isSetting_11 : decode cX8_isSetting 11 = .ok (.iconst 0, 1) := by decide +kernel
theorem dX8_isSetting_12 : decode cX8_isSetting 12 = .ok (.bipush 9, 2) := by decide +kernel
theorem dX8_isSetting_14 : decode cX8_isSetting 14 = .ok (.invokestatic 51, 3) := by decide +kernel
theorem dX8_isSetting_17 : decode cX8_isSetting 17 = .ok (.ifCond .eq 17, 3) := by decide +kernel
theorem dX8_isSetting_20 : decode cX8_isSetting 20 = .ok (.iload_n 2, 1) := by decide +kernel
theorem dX8_isSetting_21 : decode cX8_isSetting 21 = .ok (.iconst 0, 1) := by decide +kernel
theorem dX8_isSetting_22 : decode cX8_isSetting 22 = .ok (.bipush 9, 2) := by decide +kernel
theorem dX8_isSetting_24 : decode cX8_isSetting 24 = .ok (.invokestatic 51, 3) := by decide +kernel
theorem dX8_isSetting_27 : decode cX8_isSetting 27 = .ok (.ifCond .eq 7, 3) := by decide +kernel
theorem dX8_isSetting_30 : decode cX8_isSetting 30 = .ok (.iconst 1, 1) := by decide +kernel
theorem dX8_isSetting_31 : decode cX8_isSetting 31 = .ok (.goto 4, 3) := by decide +kernel
theorem dX8_isSetting_34 : decode cX8_isSetting 34 = .ok (.iconst 0, 1) := by decide +kernel
theorem dX8_isSetting_35 : decode cX8_isSetting 35 = .ok (.ireturn, 1) := by decide +kernel
theorem dX8_bakes_0 : decode cX8_bakes 0 = .ok (.aload_n 0, 1) := by decide +kernel
theorem dX8_bakes_1 : decode cX8_bakes 1 = .ok (.iload_n 1, 1) := by decide +kernel
theorem dX8_bakes_2 : decode cX8_bakes 2 = .ok (.bipush 8, 2) := by decide +kernel
theorem dX8_bakes_4 : decode cX8_bakes 4 = .ok (.invokevirtual 55, 3) := by decide +kernel
theorem dX8_bakes_7 : decode cX8_bakes 7 = .ok (.ifCond .le 7, 3) := by decide +kernel
theorem dX8_bakes_10 : decode cX8_bakes 10 = .ok (.iconst 1, 1) := by decide +kernel
theorem dX8_bakes_11 : decode cX8_bakes 11 = .ok (.goto 4, 3) := by decide +kernel
theorem dX8_bakes_14 : decode cX8_bakes 14 = .ok (.iconst 0, 1) := by decide +kernel
theorem dX8_bakes_15 : decode cX8_bakes 15 = .ok (.ireturn, 1) := by decide +kernel
theorem dX8_open_0 : decode cX8_open 0 = .ok (.aload_n 0, 1) := by decide +kernel
theorem dX8_open_1 : decode cX8_open 1 = .ok (.iload_n 1, 1) := by decide +kernel
theorem dX8_open_2 : decode cX8_open 2 = .ok (.bipush 6, 2) := by decide +kernel
theorem dX8_open_4 : decode cX8_open 4 = .ok (.invokevirtual 55, 3) := by decide +kernel
theorem dX8_open_7 : decode cX8_open 7 = .ok (.iconst 1, 1) := by decide +kernel
theorem dX8_open_8 : decode cX8_open 8 = .ok (.if_icmp .eq 11, 3) := by decide +kernel
theorem dX8_open_11 : decode cX8_open 11 = .ok (.aload_n 0, 1) := by decide +kernel
theorem dX8_open_12 : decode cX8_open 12 = .ok (.iload_n 1, 1) := by decide +kernel
theorem dX8_open_13 : decode cX8_open 13 = .ok (.invokevirtual 59, 3) := by decide +kernel
theorem dX8_open_16 : decode cX8_open 16 = .ok (.ifCond .eq 7, 3) := by decide +kernel
theorem dX8_open_19 : decode cX8_open 19 = .ok (.iconst 1, 1) := by decide +kernel
theorem dX8_open_20 : decode cX8_open 20 = .ok (.goto 4, 3) := by decide +kernel
theorem dX8_open_23 : decode cX8_open 23 = .ok (.iconst 0, 1) := by decide +kernel
theorem dX8_open_24 : decode cX8_open 24 = .ok (.ireturn, 1) := by decide +kernel
theorem dX8_away_0 : decode cX8_away 0 = .ok (.aload_n 0, 1) := by decide +kernel
theorem dX8_away_1 : decode cX8_away 1 = .ok (.iload_n 1, 1) := by decide +kernel
theorem dX8_away_2 : decode cX8_away 2 = .ok (.iconst 0, 1) := by decide +kernel
theorem dX8_away_3 : decode cX8_away 3 = .ok (.iload_n 2, 1) := by decide +kernel
theorem dX8_away_4 : decode cX8_away 4 = .ok (.iadd, 1) := by decide +kernel
theorem dX8_away_5 : decode cX8_away 5 = .ok (.invokevirtual 55, 3) := by decide +kernel
theorem dX8_away_8 : decode cX8_away 8 = .ok (.aload_n 0, 1) := by decide +kernel
theorem dX8_away_9 : decode cX8_away 9 = .ok (.iload_n 1, 1) := by decide +kernel
theorem dX8_away_10 : decode cX8_away 10 = .ok (.iconst 3, 1) := by decide +kernel
theorem dX8_away_11 : decode cX8_away 11 = .ok (.iload_n 2, 1) := by decide +kernel
theorem dX8_away_12 : decode cX8_away 12 = .ok (.iadd, 1) := by decide +kernel
theorem dX8_away_13 : decode cX8_away 13 = .ok (.invokevirtual 55, 3) := by decide +kernel
theorem dX8_away_16 : decode cX8_away 16 = .ok (.isub, 1) := by decide +kernel
theorem dX8_away_17 : decode cX8_away 17 = .ok (.istore_n 3, 1) := by decide +kernel
theorem dX8_away_18 : decode cX8_away 18 = .ok (.iload_n 3, 1) := by decide +kernel
theorem dX8_away_19 : decode cX8_away 19 = .ok (.ifCond .ge 8, 3) := by decide +kernel
theorem dX8_away_22 : decode cX8_away 22 = .ok (.iload_n 3, 1) := by decide +kernel
theorem dX8_away_23 : decode cX8_away 23 = .ok (.ineg, 1) := by decide +kernel
theorem dX8_away_24 : decode cX8_away 24 = .ok (.goto 4, 3) := by decide +kernel
theorem dX8_away_27 : decode cX8_away 27 = .ok (.iload_n 3, 1) := by decide +kernel
theorem dX8_away_28 : decode cX8_away 28 = .ok (.istore_n 3, 1) := by decide +kernel
theorem dX8_away_29 : decode cX8_away 29 = .ok (.iload_n 3, 1) := by decide +kernel
theorem dX8_away_30 : decode cX8_away 30 = .ok (.iconst 5, 1) := by decide +kernel
theorem dX8_away_31 : decode cX8_away 31 = .ok (.if_icmp .le 10, 3) := by decide +kernel
theorem dX8_away_34 : decode cX8_away 34 = .ok (.bipush 10, 2) := by decide +kernel
theorem dX8_away_36 : decode cX8_away 36 = .ok (.iload_n 3, 1) := by decide +kernel
theorem dX8_away_37 : decode cX8_away 37 = .ok (.isub, 1) := by decide +kernel
theorem dX8_away_38 : decode cX8_away 38 = .ok (.goto 4, 3) := by decide +kernel
theorem dX8_away_41 : decode cX8_away 41 = .ok (.iload_n 3, 1) := by decide +kernel
theorem dX8_away_42 : decode cX8_away 42 = .ok (.ireturn, 1) := by decide +kernel
theorem dX8_misfits_0 : decode cX8_misfits 0 = .ok (.iconst 0, 1) := by decide +kernel
theorem dX8_misfits_1 : decode cX8_misfits 1 = .ok (.istore_n 3, 1) := by decide +kernel
theorem dX8_misfits_2 : decode cX8_misfits 2 = .ok (.iconst 0, 1) := by decide +kernel
theorem dX8_misfits_3 : decode cX8_misfits 3 = .ok (.istore 4, 2) := by decide +kernel
theorem dX8_misfits_5 : decode cX8_misfits 5 = .ok (.iload 4, 2) := by decide +kernel
theorem dX8_misfits_7 : decode cX8_misfits 7 = .ok (.iconst 3, 1) := by decide +kernel
theorem dX8_misfits_8 : decode cX8_misfits 8 = .ok (.if_icmp .ge 28, 3) := by decide +kernel
theorem dX8_misfits_11 : decode cX8_misfits 11 = .ok (.iload_n 3, 1) := by decide +kernel
theorem dX8_misfits_12 : decode cX8_misfits 12 = .ok (.aload_n 0, 1) := by decide +kernel
theorem dX8_misfits_13 : decode cX8_misfits 13 = .ok (.iload_n 1, 1) := by decide +kernel
theorem dX8_misfits_14 : decode cX8_misfits 14 = .ok (.iload 4, 2) := by decide +kernel
theorem dX8_misfits_16 : decode cX8_misfits 16 = .ok (.invokevirtual 63, 3) := by decide +kernel
theorem dX8_misfits_19 : decode cX8_misfits 19 = .ok (.iload_n 2, 1) := by decide +kernel
theorem dX8_misfits_20 : decode cX8_misfits 20 = .ok (.if_icmp .le 7, 3) := by decide +kernel
theorem dX8_misfits_23 : decode cX8_misfits 23 = .ok (.iconst 1, 1) := by decide +kernel
theorem dX8_misfits_24 : decode cX8_misfits 24 = .ok (.goto 4, 3) := by decide +kernel
theorem dX8_misfits_27 : decode cX8_misfits 27 = .ok (.iconst 0, 1) := by decide +kernel
theorem dX8_misfits_28 : decode cX8_misfits 28 = .ok (.iadd, 1) := by decide +kernel
theorem dX8_misfits_29 : decode cX8_misfits 29 = .ok (.istore_n 3, 1) := by decide +kernel
theorem dX8_misfits_30 : decode cX8_misfits 30 = .ok (.iinc 4 1, 3) := by decide +kernel
theorem dX8_misfits_33 : decode cX8_misfits 33 = .ok (.goto (-28), 3) := by decide +kernel
theorem dX8_misfits_36 : decode cX8_misfits 36 = .ok (.iload_n 3, 1) := by decide +kernel
theorem dX8_misfits_37 : decode cX8_misfits 37 = .ok (.ireturn, 1) := by decide +kernel
theorem dX8_playOf_0 : decode cX8_playOf 0 = .ok (.aload_n 0, 1) := by decide +kernel
theorem dX8_playOf_1 : decode cX8_playOf 1 = .ok (.iload_n 1, 1) := by decide +kernel
theorem dX8_playOf_2 : decode cX8_playOf 2 = .ok (.bipush 7, 2) := by decide +kernel
theorem dX8_playOf_4 : decode cX8_playOf 4 = .ok (.invokevirtual 55, 3) := by decide +kernel
theorem dX8_playOf_7 : decode cX8_playOf 7 = .ok (.iconst 5, 1) := by decide +kernel
theorem dX8_playOf_8 : decode cX8_playOf 8 = .ok (.idiv, 1) := by decide +kernel
theorem dX8_playOf_9 : decode cX8_playOf 9 = .ok (.ireturn, 1) := by decide +kernel
theorem dX8_combines_0 : decode cX8_combines 0 = .ok (.aload_n 0, 1) := by decide +kernel
theorem dX8_combines_1 : decode cX8_combines 1 = .ok (.iload_n 1, 1) := by decide +kernel
theorem dX8_combines_2 : decode cX8_combines 2 = .ok (.iconst 3, 1) := by decide +kernel
theorem dX8_combines_3 : decode cX8_combines 3 = .ok (.iload_n 2, 1) := by decide +kernel
theorem dX8_combines_4 : decode cX8_combines 4 = .ok (.invokevirtual 66, 3) := by decide +kernel
theorem dX8_combines_7 : decode cX8_combines 7 = .ok (.aload_n 0, 1) := by decide +kernel
theorem dX8_combines_8 : decode cX8_combines 8 = .ok (.iload_n 1, 1) := by decide +kernel
theorem dX8_combines_9 : decode cX8_combines 9 = .ok (.iconst 4, 1) := by decide +kernel
theorem dX8_combines_10 : decode cX8_combines 10 = .ok (.iload_n 3, 1) := by decide +kernel
theorem dX8_combines_11 : decode cX8_combines 11 = .ok (.invokevirtual 66, 3) := by decide +kernel
theorem dX8_combines_14 : decode cX8_combines 14 = .ok (.aload_n 0, 1) := by decide +kernel
theorem dX8_combines_15 : decode cX8_combines 15 = .ok (.iload_n 1, 1) := by decide +kernel
theorem dX8_combines_16 : decode cX8_combines 16 = .ok (.iconst 5, 1) := by decide +kernel
theorem dX8_combines_17 : decode cX8_combines 17 = .ok (.iload 4, 2) := by decide +kernel
theorem dX8_combines_19 : decode cX8_combines 19 = .ok (.invokevirtual 66, 3) := by decide +kernel
theorem dX8_combines_22 : decode cX8_combines 22 = .ok (.return_, 1) := by decide +kernel
theorem dX8_doors_0 : decode cX8_doors 0 = .ok (.aload_n 0, 1) := by decide +kernel
theorem dX8_doors_1 : decode cX8_doors 1 = .ok (.iload_n 1, 1) := by decide +kernel
theorem dX8_doors_2 : decode cX8_doors 2 = .ok (.iload_n 2, 1) := by decide +kernel
theorem dX8_doors_3 : decode cX8_doors 3 = .ok (.iload_n 3, 1) := by decide +kernel
theorem dX8_doors_4 : decode cX8_doors 4 = .ok (.invokestatic 70, 3) := by decide +kernel
theorem dX8_doors_7 : decode cX8_doors 7 = .ok (.ifCond .ne 7, 3) := by decide +kernel
theorem dX8_doors_10 : decode cX8_doors 10 = .ok (.iconst 1, 1) := by decide +kernel
theorem dX8_doors_11 : decode cX8_doors 11 = .ok (.goto 4, 3) := by decide +kernel
theorem dX8_doors_14 : decode cX8_doors 14 = .ok (.iconst 0, 1) := by decide +kernel
theorem dX8_doors_15 : decode cX8_doors 15 = .ok (.iconst 1, 1) := by decide +kernel
theorem dX8_doors_16 : decode cX8_doors 16 = .ok (.invokevirtual 73, 3) := by decide +kernel
theorem dX8_doors_19 : decode cX8_doors 19 = .ok (.ifCond .ne 27, 3) := by decide +kernel
theorem dX8_doors_22 : decode cX8_doors 22 = .ok (.aload_n 0, 1) := by decide +kernel
theorem dX8_doors_23 : decode cX8_doors 23 = .ok (.aload_n 0, 1) := by decide +kernel
theorem dX8_doors_24 : decode cX8_doors 24 = .ok (.getfield 9, 3) := by decide +kernel
theorem dX8_doors_27 : decode cX8_doors 27 = .ok (.iconst 2, 1) := by decide +kernel
theorem dX8_doors_28 : decode cX8_doors 28 = .ok (.iaload, 1) := by decide +kernel
theorem dX8_doors_29 : decode cX8_doors 29 = .ok (.bipush 6, 2) := by decide +kernel
theorem dX8_doors_31 : decode cX8_doors 31 = .ok (.if_icmp .ne 7, 3) := by decide +kernel
theorem dX8_doors_34 : decode cX8_doors 34 = .ok (.iconst 1, 1) := by decide +kernel
theorem dX8_doors_35 : decode cX8_doors 35 = .ok (.goto 4, 3) := by decide +kernel
theorem dX8_doors_38 : decode cX8_doors 38 = .ok (.iconst 0, 1) := by decide +kernel
theorem dX8_doors_39 : decode cX8_doors 39 = .ok (.iconst 2, 1) := by decide +kernel
theorem dX8_doors_40 : decode cX8_doors 40 = .ok (.invokevirtual 73, 3) := by decide +kernel
theorem dX8_doors_43 : decode cX8_doors 43 = .ok (.ifCond .eq 5, 3) := by decide +kernel
theorem dX8_doors_46 : decode cX8_doors 46 = .ok (.iconst 0, 1) := by decide +kernel
theorem dX8_doors_47 : decode cX8_doors 47 = .ok (.ireturn, 1) := by decide +kernel
theorem dX8_doors_48 : decode cX8_doors 48 = .ok (.aload_n 0, 1) := by decide +kernel
theorem dX8_doors_49 : decode cX8_doors 49 = .ok (.aload_n 0, 1) := by decide +kernel
theorem dX8_doors_50 : decode cX8_doors 50 = .ok (.getfield 9, 3) := by decide +kernel
theorem dX8_doors_53 : decode cX8_doors 53 = .ok (.iconst 2, 1) := by decide +kernel
theorem dX8_doors_54 : decode cX8_doors 54 = .ok (.iaload, 1) := by decide +kernel
theorem dX8_doors_55 : decode cX8_doors 55 = .ok (.iload_n 1, 1) := by decide +kernel
theorem dX8_doors_56 : decode cX8_doors 56 = .ok (.iload_n 2, 1) := by decide +kernel
theorem dX8_doors_57 : decode cX8_doors 57 = .ok (.iload_n 3, 1) := by decide +kernel
theorem dX8_doors_58 : decode cX8_doors 58 = .ok (.invokevirtual 77, 3) := by decide +kernel
theorem dX8_doors_61 : decode cX8_doors 61 = .ok (.aload_n 0, 1) := by decide +kernel
theorem dX8_doors_62 : decode cX8_doors 62 = .ok (.getfield 9, 3) := by decide +kernel
theorem dX8_doors_65 : decode cX8_doors 65 = .ok (.iconst 2, 1) := by decide +kernel
theorem dX8_doors_66 : decode cX8_doors 66 = .ok (.dup2, 1) := by decide +kernel
theorem dX8_doors_67 : decode cX8_doors 67 = .ok (.iaload, 1) := by decide +kernel
theorem dX8_doors_68 : decode cX8_doors 68 = .ok (.iconst 1, 1) := by decide +kernel
theorem dX8_doors_69 : decode cX8_doors 69 = .ok (.iadd, 1) := by decide +kernel
theorem dX8_doors_70 : decode cX8_doors 70 = .ok (.iastore, 1) := by decide +kernel
theorem dX8_doors_71 : decode cX8_doors 71 = .ok (.aload_n 0, 1) := by decide +kernel
theorem dX8_doors_72 : decode cX8_doors 72 = .ok (.getfield 9, 3) := by decide +kernel
theorem dX8_doors_75 : decode cX8_doors 75 = .ok (.iconst 2, 1) := by decide +kernel
theorem dX8_doors_76 : decode cX8_doors 76 = .ok (.iaload, 1) := by decide +kernel
theorem dX8_doors_77 : decode cX8_doors 77 = .ok (.iconst 1, 1) := by decide +kernel
theorem dX8_doors_78 : decode cX8_doors 78 = .ok (.isub, 1) := by decide +kernel
theorem dX8_doors_79 : decode cX8_doors 79 = .ok (.ireturn, 1) := by decide +kernel
theorem dX8_addDoor_0 : decode cX8_addDoor 0 = .ok (.aload_n 0, 1) := by decide +kernel
theorem dX8_addDoor_1 : decode cX8_addDoor 1 = .ok (.invokevirtual 81, 3) := by decide +kernel
theorem dX8_addDoor_4 : decode cX8_addDoor 4 = .ok (.aload_n 0, 1) := by decide +kernel
theorem dX8_addDoor_5 : decode cX8_addDoor 5 = .ok (.aload_n 0, 1) := by decide +kernel
theorem dX8_addDoor_6 : decode cX8_addDoor 6 = .ok (.iload_n 1, 1) := by decide +kernel
theorem dX8_addDoor_7 : decode cX8_addDoor 7 = .ok (.iload_n 2, 1) := by decide +kernel
theorem dX8_addDoor_8 : decode cX8_addDoor 8 = .ok (.iload_n 3, 1) := by decide +kernel
theorem dX8_addDoor_9 : decode cX8_addDoor 9 = .ok (.invokevirtual 84, 3) := by decide +kernel
theorem dX8_addDoor_12 : decode cX8_addDoor 12 = .ok (.invokevirtual 88, 3) := by decide +kernel
theorem dX8_addDoor_15 : decode cX8_addDoor 15 = .ok (.ireturn, 1) := by decide +kernel
theorem dX8_turns_0 : decode cX8_turns 0 = .ok (.aload_n 0, 1) := by decide +kernel
theorem dX8_turns_1 : decode cX8_turns 1 = .ok (.aload_n 0, 1) := by decide +kernel
theorem dX8_turns_2 : decode cX8_turns 2 = .ok (.iload_n 1, 1) := by decide +kernel
theorem dX8_turns_3 : decode cX8_turns 3 = .ok (.invokevirtual 92, 3) := by decide +kernel
theorem dX8_turns_6 : decode cX8_turns 6 = .ok (.ifCond .eq 10, 3) := by decide +kernel
theorem dX8_turns_9 : decode cX8_turns 9 = .ok (.iload_n 2, 1) := by decide +kernel
theorem dX8_turns_10 : decode cX8_turns 10 = .ok (.invokestatic 95, 3) := by decide +kernel
theorem dX8_turns_13 : decode cX8_turns 13 = .ok (.ifCond .ne 7, 3) := by decide +kernel
theorem dX8_turns_16 : decode cX8_turns 16 = .ok (.iconst 1, 1) := by decide +kernel
theorem dX8_turns_17 : decode cX8_turns 17 = .ok (.goto 4, 3) := by decide +kernel
theorem dX8_turns_20 : decode cX8_turns 20 = .ok (.iconst 0, 1) := by decide +kernel
theorem dX8_turns_21 : decode cX8_turns 21 = .ok (.iconst 1, 1) := by decide +kernel
theorem dX8_turns_22 : decode cX8_turns 22 = .ok (.invokevirtual 73, 3) := by decide +kernel
theorem dX8_turns_25 : decode cX8_turns 25 = .ok (.ifCond .ne 40, 3) := by decide +kernel
theorem dX8_turns_28 : decode cX8_turns 28 = .ok (.aload_n 0, 1) := by decide +kernel
theorem dX8_turns_29 : decode cX8_turns 29 = .ok (.iload_n 3, 1) := by decide +kernel
theorem dX8_turns_30 : decode cX8_turns 30 = .ok (.bipush (-9), 2) := by decide +kernel
theorem dX8_turns_32 : decode cX8_turns 32 = .ok (.bipush 9, 2) := by decide +kernel
theorem dX8_turns_34 : decode cX8_turns 34 = .ok (.invokestatic 51, 3) := by decide +kernel
theorem dX8_turns_37 : decode cX8_turns 37 = .ok (.ifCond .ne 7, 3) := by decide +kernel
theorem dX8_turns_40 : decode cX8_turns 40 = .ok (.iconst 1, 1) := by decide +kernel
theorem dX8_turns_41 : decode cX8_turns 41 = .ok (.goto 4, 3) := by decide +kernel
theorem dX8_turns_44 : decode cX8_turns 44 = .ok (.iconst 0, 1) := by decide +kernel
theorem dX8_turns_45 : decode cX8_turns 45 = .ok (.iconst 2, 1) := by decide +kernel
theorem dX8_turns_46 : decode cX8_turns 46 = .ok (.invokevirtual 73, 3) := by decide +kernel
theorem dX8_turns_49 : decode cX8_turns 49 = .ok (.ifCond .ne 16, 3) := by decide +kernel
theorem dX8_turns_52 : decode cX8_turns 52 = .ok (.aload_n 0, 1) := by decide +kernel
theorem dX8_turns_53 : decode cX8_turns 53 = .ok (.aload_n 0, 1) := by decide +kernel
theorem dX8_turns_54 : decode cX8_turns 54 = .ok (.iload_n 1, 1) := by decide +kernel
theorem dX8_turns_55 : decode cX8_turns 55 = .ok (.invokevirtual 59, 3) := by decide +kernel
theorem dX8_turns_58 : decode cX8_turns 58 = .ok (.iconst 3, 1) := by decide +kernel
theorem dX8_turns_59 : decode cX8_turns 59 = .ok (.invokevirtual 73, 3) := by decide +kernel
theorem dX8_turns_62 : decode cX8_turns 62 = .ok (.ifCond .eq 5, 3) := by decide +kernel
theorem dX8_turns_65 : decode cX8_turns 65 = .ok (.iconst 0, 1) := by decide +kernel
theorem dX8_turns_66 : decode cX8_turns 66 = .ok (.ireturn, 1) := by decide +kernel
theorem dX8_turns_67 : decode cX8_turns 67 = .ok (.aload_n 0, 1) := by decide +kernel
theorem dX8_turns_68 : decode cX8_turns 68 = .ok (.iload_n 1, 1) := by decide +kernel
theorem dX8_turns_69 : decode cX8_turns 69 = .ok (.iconst 0, 1) := by decide +kernel
theorem dX8_turns_70 : decode cX8_turns 70 = .ok (.iload_n 2, 1) := by decide +kernel
theorem dX8_turns_71 : decode cX8_turns 71 = .ok (.iadd, 1) := by decide +kernel
theorem dX8_turns_72 : decode cX8_turns 72 = .ok (.invokevirtual 55, 3) := by decide +kernel
theorem dX8_turns_75 : decode cX8_turns 75 = .ok (.iload_n 3, 1) := by decide +kernel
theorem dX8_turns_76 : decode cX8_turns 76 = .ok (.iadd, 1) := by decide +kernel
theorem dX8_turns_77 : decode cX8_turns 77 = .ok (.bipush 10, 2) := by decide +kernel
theorem dX8_turns_79 : decode cX8_turns 79 = .ok (.iadd, 1) := by decide +kernel
theorem dX8_turns_80 : decode cX8_turns 80 = .ok (.bipush 10, 2) := by decide +kernel
theorem dX8_turns_82 : decode cX8_turns 82 = .ok (.irem, 1) := by decide +kernel
theorem dX8_turns_83 : decode cX8_turns 83 = .ok (.istore 4, 2) := by decide +kernel
theorem dX8_turns_85 : decode cX8_turns 85 = .ok (.aload_n 0, 1) := by decide +kernel
theorem dX8_turns_86 : decode cX8_turns 86 = .ok (.iload_n 1, 1) := by decide +kernel
theorem dX8_turns_87 : decode cX8_turns 87 = .ok (.iconst 0, 1) := by decide +kernel
theorem dX8_turns_88 : decode cX8_turns 88 = .ok (.iload_n 2, 1) := by decide +kernel
theorem dX8_turns_89 : decode cX8_turns 89 = .ok (.iadd, 1) := by decide +kernel
theorem dX8_turns_90 : decode cX8_turns 90 = .ok (.iload 4, 2) := by decide +kernel
theorem dX8_turns_92 : decode cX8_turns 92 = .ok (.invokevirtual 66, 3) := by decide +kernel
theorem dX8_turns_95 : decode cX8_turns 95 = .ok (.iload 4, 2) := by decide +kernel
theorem dX8_turns_97 : decode cX8_turns 97 = .ok (.ireturn, 1) := by decide +kernel
theorem dX8_turn_0 : decode cX8_turn 0 = .ok (.aload_n 0, 1) := by decide +kernel
theorem dX8_turn_1 : decode cX8_turn 1 = .ok (.invokevirtual 81, 3) := by decide +kernel
theorem dX8_turn_4 : decode cX8_turn 4 = .ok (.aload_n 0, 1) := by decide +kernel
theorem dX8_turn_5 : decode cX8_turn 5 = .ok (.aload_n 0, 1) := by decide +kernel
theorem dX8_turn_6 : decode cX8_turn 6 = .ok (.iload_n 1, 1) := by decide +kernel
theorem dX8_turn_7 : decode cX8_turn 7 = .ok (.iload_n 2, 1) := by decide +kernel
theorem dX8_turn_8 : decode cX8_turn 8 = .ok (.iload_n 3, 1) := by decide +kernel
theorem dX8_turn_9 : decode cX8_turn 9 = .ok (.invokevirtual 98, 3) := by decide +kernel
theorem dX8_turn_12 : decode cX8_turn 12 = .ok (.invokevirtual 88, 3) := by decide +kernel
theorem dX8_turn_15 : decode cX8_turn 15 = .ok (.ireturn, 1) := by decide +kernel
theorem dX8_records_0 : decode cX8_records 0 = .ok (.bipush 84, 2) := by decide +kernel
theorem dX8_records_2 : decode cX8_records 2 = .ok (.istore_n 3, 1) := by decide +kernel
theorem dX8_records_3 : decode cX8_records 3 = .ok (.iload_n 3, 1) := by decide +kernel
theorem dX8_records_4 : decode cX8_records 4 = .ok (.bipush 67, 2) := by decide +kernel
theorem dX8_records_6 : decode cX8_records 6 = .ok (.if_icmp .lt 23, 3) := by decide +kernel
theorem dX8_records_9 : decode cX8_records 9 = .ok (.aload_n 0, 1) := by decide +kernel
theorem dX8_records_10 : decode cX8_records 10 = .ok (.getfield 9, 3) := by decide +kernel
theorem dX8_records_13 : decode cX8_records 13 = .ok (.iload_n 3, 1) := by decide +kernel
theorem dX8_records_14 : decode cX8_records 14 = .ok (.aload_n 0, 1) := by decide +kernel
theorem dX8_records_15 : decode cX8_records 15 = .ok (.getfield 9, 3) := by decide +kernel
theorem dX8_records_18 : decode cX8_records 18 = .ok (.iload_n 3, 1) := by decide +kernel
theorem dX8_records_19 : decode cX8_records 19 = .ok (.iconst 2, 1) := by decide +kernel
theorem dX8_records_20 : decode cX8_records 20 = .ok (.isub, 1) := by decide +kernel
theorem dX8_records_21 : decode cX8_records 21 = .ok (.iaload, 1) := by decide +kernel
theorem dX8_records_22 : decode cX8_records 22 = .ok (.iastore, 1) := by decide +kernel
theorem dX8_records_23 : decode cX8_records 23 = .ok (.iinc 3 (-1), 3) := by decide +kernel
theorem dX8_records_26 : decode cX8_records 26 = .ok (.goto (-23), 3) := by decide +kernel
theorem dX8_records_29 : decode cX8_records 29 = .ok (.aload_n 0, 1) := by decide +kernel
theorem dX8_records_30 : decode cX8_records 30 = .ok (.getfield 9, 3) := by decide +kernel
theorem dX8_records_33 : decode cX8_records 33 = .ok (.bipush 65, 2) := by decide +kernel
theorem dX8_records_35 : decode cX8_records 35 = .ok (.iload_n 1, 1) := by decide +kernel
theorem dX8_records_36 : decode cX8_records 36 = .ok (.iastore, 1) := by decide +kernel
theorem dX8_records_37 : decode cX8_records 37 = .ok (.aload_n 0, 1) := by decide +kernel
theorem dX8_records_38 : decode cX8_records 38 = .ok (.getfield 9, 3) := by decide +kernel
theorem dX8_records_41 : decode cX8_records 41 = .ok (.bipush 66, 2) := by decide +kernel
theorem dX8_records_43 : decode cX8_records 43 = .ok (.iload_n 2, 1) := by decide +kernel
theorem dX8_records_44 : decode cX8_records 44 = .ok (.iastore, 1) := by decide +kernel
theorem dX8_records_45 : decode cX8_records 45 = .ok (.aload_n 0, 1) := by decide +kernel
theorem dX8_records_46 : decode cX8_records 46 = .ok (.getfield 9, 3) := by decide +kernel
theorem dX8_records_49 : decode cX8_records 49 = .ok (.bipush 6, 2) := by decide +kernel
theorem dX8_records_51 : decode cX8_records 51 = .ok (.dup2, 1) := by decide +kernel
theorem dX8_records_52 : decode cX8_records 52 = .ok (.iaload, 1) := by decide +kernel
theorem dX8_records_53 : decode cX8_records 53 = .ok (.aload_n 0, 1) := by decide +kernel
theorem dX8_records_54 : decode cX8_records 54 = .ok (.getfield 9, 3) := by decide +kernel
theorem dX8_records_57 : decode cX8_records 57 = .ok (.bipush 6, 2) := by decide +kernel
theorem dX8_records_59 : decode cX8_records 59 = .ok (.iaload, 1) := by decide +kernel
theorem dX8_records_60 : decode cX8_records 60 = .ok (.bipush 10, 2) := by decide +kernel
theorem dX8_records_62 : decode cX8_records 62 = .ok (.if_icmp .ge 7, 3) := by decide +kernel
theorem dX8_records_65 : decode cX8_records 65 = .ok (.iconst 1, 1) := by decide +kernel
theorem dX8_records_66 : decode cX8_records 66 = .ok (.goto 4, 3) := by decide +kernel
theorem dX8_records_69 : decode cX8_records 69 = .ok (.iconst 0, 1) := by decide +kernel
theorem dX8_records_70 : decode cX8_records 70 = .ok (.iadd, 1) := by decide +kernel
theorem dX8_records_71 : decode cX8_records 71 = .ok (.iastore, 1) := by decide +kernel
theorem dX8_records_72 : decode cX8_records 72 = .ok (.aload_n 0, 1) := by decide +kernel
theorem dX8_records_73 : decode cX8_records 73 = .ok (.getfield 9, 3) := by decide +kernel
theorem dX8_records_76 : decode cX8_records 76 = .ok (.iconst 3, 1) := by decide +kernel
theorem dX8_records_77 : decode cX8_records 77 = .ok (.dup2, 1) := by decide +kernel
theorem dX8_records_78 : decode cX8_records 78 = .ok (.iaload, 1) := by decide +kernel
theorem dX8_records_79 : decode cX8_records 79 = .ok (.iconst 1, 1) := by decide +kernel
theorem dX8_records_80 : decode cX8_records 80 = .ok (.iadd, 1) := by decide +kernel
theorem dX8_records_81 : decode cX8_records 81 = .ok (.iastore, 1) := by decide +kernel
theorem dX8_records_82 : decode cX8_records 82 = .ok (.aload_n 0, 1) := by decide +kernel
theorem dX8_records_83 : decode cX8_records 83 = .ok (.getfield 9, 3) := by decide +kernel
theorem dX8_records_86 : decode cX8_records 86 = .ok (.iconst 4, 1) := by decide +kernel
theorem dX8_records_87 : decode cX8_records 87 = .ok (.dup2, 1) := by decide +kernel
theorem dX8_records_88 : decode cX8_records 88 = .ok (.iaload, 1) := by decide +kernel
theorem dX8_records_89 : decode cX8_records 89 = .ok (.iload_n 2, 1) := by decide +kernel
theorem dX8_records_90 : decode cX8_records 90 = .ok (.iadd, 1) := by decide +kernel
theorem dX8_records_91 : decode cX8_records 91 = .ok (.iastore, 1) := by decide +kernel
theorem dX8_records_92 : decode cX8_records 92 = .ok (.return_, 1) := by decide +kernel
theorem dX8_crumbled_0 : decode cX8_crumbled 0 = .ok (.iload_n 0, 1) := by decide +kernel
theorem dX8_crumbled_1 : decode cX8_crumbled 1 = .ok (.iload_n 1, 1) := by decide +kernel
theorem dX8_crumbled_2 : decode cX8_crumbled 2 = .ok (.iadd, 1) := by decide +kernel
theorem dX8_crumbled_3 : decode cX8_crumbled 3 = .ok (.bipush 20, 2) := by decide +kernel
theorem dX8_crumbled_5 : decode cX8_crumbled 5 = .ok (.if_icmp .le 8, 3) := by decide +kernel
theorem dX8_crumbled_8 : decode cX8_crumbled 8 = .ok (.bipush 20, 2) := by decide +kernel
theorem dX8_crumbled_10 : decode cX8_crumbled 10 = .ok (.goto 6, 3) := by decide +kernel
theorem dX8_crumbled_13 : decode cX8_crumbled 13 = .ok (.iload_n 0, 1) := by decide +kernel
theorem dX8_crumbled_14 : decode cX8_crumbled 14 = .ok (.iload_n 1, 1) := by decide +kernel
theorem dX8_crumbled_15 : decode cX8_crumbled 15 = .ok (.iadd, 1) := by decide +kernel
theorem dX8_crumbled_16 : decode cX8_crumbled 16 = .ok (.ireturn, 1) := by decide +kernel
theorem dX8_tries_0 : decode cX8_tries 0 = .ok (.aload_n 0, 1) := by decide +kernel
theorem dX8_tries_1 : decode cX8_tries 1 = .ok (.aload_n 0, 1) := by decide +kernel
theorem dX8_tries_2 : decode cX8_tries 2 = .ok (.iload_n 1, 1) := by decide +kernel
theorem dX8_tries_3 : decode cX8_tries 3 = .ok (.invokevirtual 92, 3) := by decide +kernel
theorem dX8_tries_6 : decode cX8_tries 6 = .ok (.ifCond .ne 7, 3) := by decide +kernel
theorem dX8_tries_9 : decode cX8_tries 9 = .ok (.iconst 1, 1) := by decide +kernel
theorem dX8_tries_10 : decode cX8_tries 10 = .ok (.goto 4, 3) := by decide +kernel
theorem dX8_tries_13 : decode cX8_tries 13 = .ok (.iconst 0, 1) := by decide +kernel
theorem dX8_tries_14 : decode cX8_tries 14 = .ok (.iconst 1, 1) := by decide +kernel
theorem dX8_tries_15 : decode cX8_tries 15 = .ok (.invokevirtual 73, 3) := by decide +kernel
theorem dX8_tries_18 : decode cX8_tries 18 = .ok (.ifCond .ne 16, 3) := by decide +kernel
theorem dX8_tries_21 : decode cX8_tries 21 = .ok (.aload_n 0, 1) := by decide +kernel
theorem dX8_tries_22 : decode cX8_tries 22 = .ok (.aload_n 0, 1) := by decide +kernel
theorem dX8_tries_23 : decode cX8_tries 23 = .ok (.iload_n 1, 1) := by decide +kernel
theorem dX8_tries_24 : decode cX8_tries 24 = .ok (.invokevirtual 101, 3) := by decide +kernel
theorem dX8_tries_27 : decode cX8_tries 27 = .ok (.iconst 2, 1) := by decide +kernel
theorem dX8_tries_28 : decode cX8_tries 28 = .ok (.invokevirtual 73, 3) := by decide +kernel
theorem dX8_tries_31 : decode cX8_tries 31 = .ok (.ifCond .eq 5, 3) := by decide +kernel
theorem dX8_tries_34 : decode cX8_tries 34 = .ok (.iconst 0, 1) := by decide +kernel
theorem dX8_tries_35 : decode cX8_tries 35 = .ok (.ireturn, 1) := by decide +kernel
theorem dX8_tries_36 : decode cX8_tries 36 = .ok (.aload_n 0, 1) := by decide +kernel
theorem dX8_tries_37 : decode cX8_tries 37 = .ok (.iload_n 1, 1) := by decide +kernel
theorem dX8_tries_38 : decode cX8_tries 38 = .ok (.aload_n 0, 1) := by decide +kernel
theorem dX8_tries_39 : decode cX8_tries 39 = .ok (.iload_n 1, 1) := by decide +kernel
theorem dX8_tries_40 : decode cX8_tries 40 = .ok (.invokevirtual 104, 3) := by decide +kernel
theorem dX8_tries_43 : decode cX8_tries 43 = .ok (.invokevirtual 107, 3) := by decide +kernel
theorem dX8_tries_46 : decode cX8_tries 46 = .ok (.istore_n 2, 1) := by decide +kernel
theorem dX8_tries_47 : decode cX8_tries 47 = .ok (.aload_n 0, 1) := by decide +kernel
theorem dX8_tries_48 : decode cX8_tries 48 = .ok (.iload_n 1, 1) := by decide +kernel
theorem dX8_tries_49 : decode cX8_tries 49 = .ok (.bipush 7, 2) := by decide +kernel
theorem dX8_tries_51 : decode cX8_tries 51 = .ok (.aload_n 0, 1) := by decide +kernel
theorem dX8_tries_52 : decode cX8_tries 52 = .ok (.iload_n 1, 1) := by decide +kernel
theorem dX8_tries_53 : decode cX8_tries 53 = .ok (.bipush 7, 2) := by decide +kernel
theorem dX8_tries_55 : decode cX8_tries 55 = .ok (.invokevirtual 55, 3) := by decide +kernel
theorem dX8_tries_58 : decode cX8_tries 58 = .ok (.iload_n 2, 1) := by decide +kernel
theorem dX8_tries_59 : decode cX8_tries 59 = .ok (.invokestatic 110, 3) := by decide +kernel
theorem dX8_tries_62 : decode cX8_tries 62 = .ok (.invokevirtual 66, 3) := by decide +kernel
theorem dX8_tries_65 : decode cX8_tries 65 = .ok (.aload_n 0, 1) := by decide +kernel
theorem dX8_tries_66 : decode cX8_tries 66 = .ok (.iload_n 1, 1) := by decide +kernel
theorem dX8_tries_67 : decode cX8_tries 67 = .ok (.bipush 6, 2) := by decide +kernel
theorem dX8_tries_69 : decode cX8_tries 69 = .ok (.iload_n 2, 1) := by decide +kernel
theorem dX8_tries_70 : decode cX8_tries 70 = .ok (.ifCond .eq 15, 3) := by decide +kernel
theorem dX8_tries_73 : decode cX8_tries 73 = .ok (.aload_n 0, 1) := by decide +kernel
theorem dX8_tries_74 : decode cX8_tries 74 = .ok (.iload_n 1, 1) := by decide +kernel
theorem dX8_tries_75 : decode cX8_tries 75 = .ok (.bipush 7, 2) := by decide +kernel
theorem dX8_tries_77 : decode cX8_tries 77 = .ok (.invokevirtual 55, 3) := by decide +kernel
theorem dX8_tries_80 : decode cX8_tries 80 = .ok (.bipush 20, 2) := by decide +kernel
theorem dX8_tries_82 : decode cX8_tries 82 = .ok (.if_icmp .ne 7, 3) := by decide +kernel
theorem dX8_tries_85 : decode cX8_tries 85 = .ok (.iconst 1, 1) := by decide +kernel
theorem dX8_tries_86 : decode cX8_tries 86 = .ok (.goto 4, 3) := by decide +kernel
theorem dX8_tries_89 : decode cX8_tries 89 = .ok (.iconst 0, 1) := by decide +kernel
theorem dX8_tries_90 : decode cX8_tries 90 = .ok (.invokevirtual 66, 3) := by decide +kernel
theorem dX8_tries_93 : decode cX8_tries 93 = .ok (.aload_n 0, 1) := by decide +kernel
theorem dX8_tries_94 : decode cX8_tries 94 = .ok (.iload_n 1, 1) := by decide +kernel
theorem dX8_tries_95 : decode cX8_tries 95 = .ok (.iload_n 2, 1) := by decide +kernel
theorem dX8_tries_96 : decode cX8_tries 96 = .ok (.ifCond .ne 7, 3) := by decide +kernel
theorem dX8_tries_99 : decode cX8_tries 99 = .ok (.iconst 1, 1) := by decide +kernel
theorem dX8_tries_100 : decode cX8_tries 100 = .ok (.goto 4, 3) := by decide +kernel
theorem dX8_tries_103 : decode cX8_tries 103 = .ok (.iconst 0, 1) := by decide +kernel
theorem dX8_tries_104 : decode cX8_tries 104 = .ok (.invokevirtual 113, 3) := by decide +kernel
theorem dX8_tries_107 : decode cX8_tries 107 = .ok (.iload_n 2, 1) := by decide +kernel
theorem dX8_tries_108 : decode cX8_tries 108 = .ok (.ifCond .ne 7, 3) := by decide +kernel
theorem dX8_tries_111 : decode cX8_tries 111 = .ok (.iconst 1, 1) := by decide +kernel
theorem dX8_tries_112 : decode cX8_tries 112 = .ok (.goto 4, 3) := by decide +kernel
theorem dX8_tries_115 : decode cX8_tries 115 = .ok (.iconst 0, 1) := by decide +kernel
theorem dX8_tries_116 : decode cX8_tries 116 = .ok (.ireturn, 1) := by decide +kernel
theorem dX8_tryLock_0 : decode cX8_tryLock 0 = .ok (.aload_n 0, 1) := by decide +kernel
theorem dX8_tryLock_1 : decode cX8_tryLock 1 = .ok (.invokevirtual 81, 3) := by decide +kernel
theorem dX8_tryLock_4 : decode cX8_tryLock 4 = .ok (.aload_n 0, 1) := by decide +kernel
theorem dX8_tryLock_5 : decode cX8_tryLock 5 = .ok (.aload_n 0, 1) := by decide +kernel
theorem dX8_tryLock_6 : decode cX8_tryLock 6 = .ok (.iload_n 1, 1) := by decide +kernel
theorem dX8_tryLock_7 : decode cX8_tryLock 7 = .ok (.invokevirtual 117, 3) := by decide +kernel
theorem dX8_tryLock_10 : decode cX8_tryLock 10 = .ok (.invokevirtual 88, 3) := by decide +kernel
theorem dX8_tryLock_13 : decode cX8_tryLock 13 = .ok (.iconst 1, 1) := by decide +kernel
theorem dX8_tryLock_14 : decode cX8_tryLock 14 = .ok (.if_icmp .ne 7, 3) := by decide +kernel
theorem dX8_tryLock_17 : decode cX8_tryLock 17 = .ok (.iconst 1, 1) := by decide +kernel
theorem dX8_tryLock_18 : decode cX8_tryLock 18 = .ok (.goto 4, 3) := by decide +kernel
theorem dX8_tryLock_21 : decode cX8_tryLock 21 = .ok (.iconst 0, 1) := by decide +kernel
theorem dX8_tryLock_22 : decode cX8_tryLock 22 = .ok (.ireturn, 1) := by decide +kernel
theorem dX8_manyShut_0 : decode cX8_manyShut 0 = .ok (.iconst 0, 1) := by decide +kernel
theorem dX8_manyShut_1 : decode cX8_manyShut 1 = .ok (.istore_n 1, 1) := by decide +kernel
theorem dX8_manyShut_2 : decode cX8_manyShut 2 = .ok (.iconst 0, 1) := by decide +kernel
theorem dX8_manyShut_3 : decode cX8_manyShut 3 = .ok (.istore_n 2, 1) := by decide +kernel
theorem dX8_manyShut_4 : decode cX8_manyShut 4 = .ok (.iload_n 2, 1) := by decide +kernel
theorem dX8_manyShut_5 : decode cX8_manyShut 5 = .ok (.aload_n 0, 1) := by decide +kernel
theorem dX8_manyShut_6 : decode cX8_manyShut 6 = .ok (.getfield 9, 3) := by decide +kernel
theorem dX8_manyShut_9 : decode cX8_manyShut 9 = .ok (.iconst 2, 1) := by decide +kernel
theorem dX8_manyShut_10 : decode cX8_manyShut 10 = .ok (.iaload, 1) := by decide +kernel
theorem dX8_manyShut_11 : decode cX8_manyShut 11 = .ok (.if_icmp .ge 25, 3) := by decide +kernel
theorem dX8_manyShut_14 : decode cX8_manyShut 14 = .ok (.iload_n 1, 1) := by decide +kernel
theorem dX8_manyShut_15 : decode cX8_manyShut 15 = .ok (.aload_n 0, 1) := by decide +kernel
theorem dX8_manyShut_16 : decode cX8_manyShut 16 = .ok (.iload_n 2, 1) := by decide +kernel
theorem dX8_manyShut_17 : decode cX8_manyShut 17 = .ok (.invokevirtual 101, 3) := by decide +kernel
theorem dX8_manyShut_20 : decode cX8_manyShut 20 = .ok (.ifCond .eq 7, 3) := by decide +kernel
theorem dX8_manyShut_23 : decode cX8_manyShut 23 = .ok (.iconst 0, 1) := by decide +kernel
theorem dX8_manyShut_24 : decode cX8_manyShut 24 = .ok (.goto 4, 3) := by decide +kernel
theorem dX8_manyShut_27 : decode cX8_manyShut 27 = .ok (.iconst 1, 1) := by decide +kernel
theorem dX8_manyShut_28 : decode cX8_manyShut 28 = .ok (.iadd, 1) := by decide +kernel
theorem dX8_manyShut_29 : decode cX8_manyShut 29 = .ok (.istore_n 1, 1) := by decide +kernel
theorem dX8_manyShut_30 : decode cX8_manyShut 30 = .ok (.iinc 2 1, 3) := by decide +kernel
theorem dX8_manyShut_33 : decode cX8_manyShut 33 = .ok (.goto (-29), 3) := by decide +kernel
theorem dX8_manyShut_36 : decode cX8_manyShut 36 = .ok (.iload_n 1, 1) := by decide +kernel
theorem dX8_manyShut_37 : decode cX8_manyShut 37 = .ok (.ireturn, 1) := by decide +kernel
theorem dX8_shuts_0 : decode cX8_shuts 0 = .ok (.aload_n 0, 1) := by decide +kernel
theorem dX8_shuts_1 : decode cX8_shuts 1 = .ok (.aload_n 0, 1) := by decide +kernel
theorem dX8_shuts_2 : decode cX8_shuts 2 = .ok (.iload_n 1, 1) := by decide +kernel
theorem dX8_shuts_3 : decode cX8_shuts 3 = .ok (.invokevirtual 92, 3) := by decide +kernel
theorem dX8_shuts_6 : decode cX8_shuts 6 = .ok (.ifCond .ne 7, 3) := by decide +kernel
theorem dX8_shuts_9 : decode cX8_shuts 9 = .ok (.iconst 1, 1) := by decide +kernel
theorem dX8_shuts_10 : decode cX8_shuts 10 = .ok (.goto 4, 3) := by decide +kernel
theorem dX8_shuts_13 : decode cX8_shuts 13 = .ok (.iconst 0, 1) := by decide +kernel
theorem dX8_shuts_14 : decode cX8_shuts 14 = .ok (.iconst 1, 1) := by decide +kernel
theorem dX8_shuts_15 : decode cX8_shuts 15 = .ok (.invokevirtual 73, 3) := by decide +kernel
theorem dX8_shuts_18 : decode cX8_shuts 18 = .ok (.ifCond .ne 57, 3) := by decide +kernel
theorem dX8_shuts_21 : decode cX8_shuts 21 = .ok (.aload_n 0, 1) := by decide +kernel
theorem dX8_shuts_22 : decode cX8_shuts 22 = .ok (.aload_n 0, 1) := by decide +kernel
theorem dX8_shuts_23 : decode cX8_shuts 23 = .ok (.iload_n 1, 1) := by decide +kernel
theorem dX8_shuts_24 : decode cX8_shuts 24 = .ok (.invokevirtual 101, 3) := by decide +kernel
theorem dX8_shuts_27 : decode cX8_shuts 27 = .ok (.ifCond .eq 11, 3) := by decide +kernel
theorem dX8_shuts_30 : decode cX8_shuts 30 = .ok (.aload_n 0, 1) := by decide +kernel
theorem dX8_shuts_31 : decode cX8_shuts 31 = .ok (.iload_n 1, 1) := by decide +kernel
theorem dX8_shuts_32 : decode cX8_shuts 32 = .ok (.invokevirtual 59, 3) := by decide +kernel
theorem dX8_shuts_35 : decode cX8_shuts 35 = .ok (.ifCond .eq 7, 3) := by decide +kernel
theorem dX8_shuts_38 : decode cX8_shuts 38 = .ok (.iconst 1, 1) := by decide +kernel
theorem dX8_shuts_39 : decode cX8_shuts 39 = .ok (.goto 4, 3) := by decide +kernel
theorem dX8_shuts_42 : decode cX8_shuts 42 = .ok (.iconst 0, 1) := by decide +kernel
theorem dX8_shuts_43 : decode cX8_shuts 43 = .ok (.iconst 2, 1) := by decide +kernel
theorem dX8_shuts_44 : decode cX8_shuts 44 = .ok (.invokevirtual 73, 3) := by decide +kernel
theorem dX8_shuts_47 : decode cX8_shuts 47 = .ok (.ifCond .ne 28, 3) := by decide +kernel
theorem dX8_shuts_50 : decode cX8_shuts 50 = .ok (.aload_n 0, 1) := by decide +kernel
theorem dX8_shuts_51 : decode cX8_shuts 51 = .ok (.aload_n 0, 1) := by decide +kernel
theorem dX8_shuts_52 : decode cX8_shuts 52 = .ok (.iload_n 1, 1) := by decide +kernel
theorem dX8_shuts_53 : decode cX8_shuts 53 = .ok (.bipush 7, 2) := by decide +kernel
theorem dX8_shuts_55 : decode cX8_shuts 55 = .ok (.invokevirtual 55, 3) := by decide +kernel
theorem dX8_shuts_58 : decode cX8_shuts 58 = .ok (.bipush 20, 2) := by decide +kernel
theorem dX8_shuts_60 : decode cX8_shuts 60 = .ok (.if_icmp .ne 7, 3) := by decide +kernel
theorem dX8_shuts_63 : decode cX8_shuts 63 = .ok (.iconst 1, 1) := by decide +kernel
theorem dX8_shuts_64 : decode cX8_shuts 64 = .ok (.goto 4, 3) := by decide +kernel
theorem dX8_shuts_67 : decode cX8_shuts 67 = .ok (.iconst 0, 1) := by decide +kernel
theorem dX8_shuts_68 : decode cX8_shuts 68 = .ok (.iconst 3, 1) := by decide +kernel
theorem dX8_shuts_69 : decode cX8_shuts 69 = .ok (.invokevirtual 73, 3) := by decide +kernel
theorem dX8_shuts_72 : decode cX8_shuts 72 = .ok (.ifCond .eq 5, 3) := by decide +kernel
theorem dX8_shuts_75 : decode cX8_shuts 75 = .ok (.iconst 0, 1) := by decide +kernel
theorem dX8_shuts_76 : decode cX8_shuts 76 = .ok (.ireturn, 1) := by decide +kernel
theorem dX8_shuts_77 : decode cX8_shuts 77 = .ok (.aload_n 0, 1) := by decide +kernel
theorem dX8_shuts_78 : decode cX8_shuts 78 = .ok (.iload_n 1, 1) := by decide +kernel
theorem dX8_shuts_79 : decode cX8_shuts 79 = .ok (.bipush 6, 2) := by decide +kernel
theorem dX8_shuts_81 : decode cX8_shuts 81 = .ok (.iconst 0, 1) := by decide +kernel
theorem dX8_shuts_82 : decode cX8_shuts 82 = .ok (.invokevirtual 66, 3) := by decide +kernel
theorem dX8_shuts_85 : decode cX8_shuts 85 = .ok (.aload_n 0, 1) := by decide +kernel
theorem dX8_shuts_86 : decode cX8_shuts 86 = .ok (.invokevirtual 120, 3) := by decide +kernel
theorem dX8_shuts_89 : decode cX8_shuts 89 = .ok (.ireturn, 1) := by decide +kernel
theorem dX8_shut_0 : decode cX8_shut 0 = .ok (.aload_n 0, 1) := by decide +kernel
theorem dX8_shut_1 : decode cX8_shut 1 = .ok (.invokevirtual 81, 3) := by decide +kernel
theorem dX8_shut_4 : decode cX8_shut 4 = .ok (.aload_n 0, 1) := by decide +kernel
theorem dX8_shut_5 : decode cX8_shut 5 = .ok (.aload_n 0, 1) := by decide +kernel
theorem dX8_shut_6 : decode cX8_shut 6 = .ok (.iload_n 1, 1) := by decide +kernel
theorem dX8_shut_7 : decode cX8_shut 7 = .ok (.invokevirtual 124, 3) := by decide +kernel
theorem dX8_shut_10 : decode cX8_shut 10 = .ok (.invokevirtual 88, 3) := by decide +kernel
theorem dX8_shut_13 : decode cX8_shut 13 = .ok (.ireturn, 1) := by decide +kernel
theorem dX8_combined_0 : decode cX8_combined 0 = .ok (.aload_n 0, 1) := by decide +kernel
theorem dX8_combined_1 : decode cX8_combined 1 = .ok (.aload_n 0, 1) := by decide +kernel
theorem dX8_combined_2 : decode cX8_combined 2 = .ok (.iload_n 1, 1) := by decide +kernel
theorem dX8_combined_3 : decode cX8_combined 3 = .ok (.invokevirtual 92, 3) := by decide +kernel
theorem dX8_combined_6 : decode cX8_combined 6 = .ok (.ifCond .ne 7, 3) := by decide +kernel
theorem dX8_combined_9 : decode cX8_combined 9 = .ok (.iconst 1, 1) := by decide +kernel
theorem dX8_combined_10 : decode cX8_combined 10 = .ok (.goto 4, 3) := by decide +kernel
theorem dX8_combined_13 : decode cX8_combined 13 = .ok (.iconst 0, 1) := by decide +kernel
theorem dX8_combined_14 : decode cX8_combined 14 = .ok (.iconst 1, 1) := by decide +kernel
theorem dX8_combined_15 : decode cX8_combined 15 = .ok (.invokevirtual 73, 3) := by decide +kernel
theorem dX8_combined_18 : decode cX8_combined 18 = .ok (.ifCond .ne 55, 3) := by decide +kernel
theorem dX8_combined_21 : decode cX8_combined 21 = .ok (.aload_n 0, 1) := by decide +kernel
theorem dX8_combined_22 : decode cX8_combined 22 = .ok (.iload_n 2, 1) := by decide +kernel
theorem dX8_combined_23 : decode cX8_combined 23 = .ok (.iload_n 3, 1) := by decide +kernel
theorem dX8_combined_24 : decode cX8_combined 24 = .ok (.iload 4, 2) := by decide +kernel
theorem dX8_combined_26 : decode cX8_combined 26 = .ok (.invokestatic 70, 3) := by decide +kernel
theorem dX8_combined_29 : decode cX8_combined 29 = .ok (.ifCond .ne 7, 3) := by decide +kernel
theorem dX8_combined_32 : decode cX8_combined 32 = .ok (.iconst 1, 1) := by decide +kernel
theorem dX8_combined_33 : decode cX8_combined 33 = .ok (.goto 4, 3) := by decide +kernel
theorem dX8_combined_36 : decode cX8_combined 36 = .ok (.iconst 0, 1) := by decide +kernel
theorem dX8_combined_37 : decode cX8_combined 37 = .ok (.iconst 2, 1) := by decide +kernel
theorem dX8_combined_38 : decode cX8_combined 38 = .ok (.invokevirtual 73, 3) := by decide +kernel
theorem dX8_combined_41 : decode cX8_combined 41 = .ok (.ifCond .ne 32, 3) := by decide +kernel
theorem dX8_combined_44 : decode cX8_combined 44 = .ok (.aload_n 0, 1) := by decide +kernel
theorem dX8_combined_45 : decode cX8_combined 45 = .ok (.aload_n 0, 1) := by decide +kernel
theorem dX8_combined_46 : decode cX8_combined 46 = .ok (.iload_n 1, 1) := by decide +kernel
theorem dX8_combined_47 : decode cX8_combined 47 = .ok (.invokevirtual 101, 3) := by decide +kernel
theorem dX8_combined_50 : decode cX8_combined 50 = .ok (.ifCond .eq 11, 3) := by decide +kernel
theorem dX8_combined_53 : decode cX8_combined 53 = .ok (.aload_n 0, 1) := by decide +kernel
theorem dX8_combined_54 : decode cX8_combined 54 = .ok (.iload_n 1, 1) := by decide +kernel
theorem dX8_combined_55 : decode cX8_combined 55 = .ok (.invokevirtual 59, 3) := by decide +kernel
theorem dX8_combined_58 : decode cX8_combined 58 = .ok (.ifCond .eq 7, 3) := by decide +kernel
theorem dX8_combined_61 : decode cX8_combined 61 = .ok (.iconst 1, 1) := by decide +kernel
theorem dX8_combined_62 : decode cX8_combined 62 = .ok (.goto 4, 3) := by decide +kernel
theorem dX8_combined_65 : decode cX8_combined 65 = .ok (.iconst 0, 1) := by decide +kernel
theorem dX8_combined_66 : decode cX8_combined 66 = .ok (.iconst 3, 1) := by decide +kernel
theorem dX8_combined_67 : decode cX8_combined 67 = .ok (.invokevirtual 73, 3) := by decide +kernel
theorem dX8_combined_70 : decode cX8_combined 70 = .ok (.ifCond .eq 5, 3) := by decide +kernel
theorem dX8_combined_73 : decode cX8_combined 73 = .ok (.iconst 0, 1) := by decide +kernel
theorem dX8_combined_74 : decode cX8_combined 74 = .ok (.ireturn, 1) := by decide +kernel
theorem dX8_combined_75 : decode cX8_combined 75 = .ok (.aload_n 0, 1) := by decide +kernel
theorem dX8_combined_76 : decode cX8_combined 76 = .ok (.iload_n 1, 1) := by decide +kernel
theorem dX8_combined_77 : decode cX8_combined 77 = .ok (.iconst 3, 1) := by decide +kernel
theorem dX8_combined_78 : decode cX8_combined 78 = .ok (.invokevirtual 55, 3) := by decide +kernel
theorem dX8_combined_81 : decode cX8_combined 81 = .ok (.iload_n 2, 1) := by decide +kernel
theorem dX8_combined_82 : decode cX8_combined 82 = .ok (.if_icmp .eq 7, 3) := by decide +kernel
theorem dX8_combined_85 : decode cX8_combined 85 = .ok (.iconst 1, 1) := by decide +kernel
theorem dX8_combined_86 : decode cX8_combined 86 = .ok (.goto 4, 3) := by decide +kernel
theorem dX8_combined_89 : decode cX8_combined 89 = .ok (.iconst 0, 1) := by decide +kernel
theorem dX8_combined_90 : decode cX8_combined 90 = .ok (.istore 5, 2) := by decide +kernel
theorem dX8_combined_92 : decode cX8_combined 92 = .ok (.iload 5, 2) := by decide +kernel
theorem dX8_combined_94 : decode cX8_combined 94 = .ok (.aload_n 0, 1) := by decide +kernel
theorem dX8_combined_95 : decode cX8_combined 95 = .ok (.iload_n 1, 1) := by decide +kernel
theorem dX8_combined_96 : decode cX8_combined 96 = .ok (.iconst 4, 1) := by decide +kernel
theorem dX8_combined_97 : decode cX8_combined 97 = .ok (.invokevirtual 55, 3) := by decide +kernel
theorem dX8_combined_100 : decode cX8_combined 100 = .ok (.iload_n 3, 1) := by decide +kernel
theorem dX8_combined_101 : decode cX8_combined 101 = .ok (.if_icmp .eq 7, 3) := by decide +kernel
theorem dX8_combined_104 : decode cX8_combined 104 = .ok (.iconst 1, 1) := by decide +kernel
theorem dX8_combined_105 : decode cX8_combined 105 = .ok (.goto 4, 3) := by decide +kernel
theorem dX8_combined_108 : decode cX8_combined 108 = .ok (.iconst 0, 1) := by decide +kernel
theorem dX8_combined_109 : decode cX8_combined 109 = .ok (.iadd, 1) := by decide +kernel
theorem dX8_combined_110 : decode cX8_combined 110 = .ok (.istore 5, 2) := by decide +kernel
theorem dX8_combined_112 : decode cX8_combined 112 = .ok (.iload 5, 2) := by decide +kernel
theorem dX8_combined_114 : decode cX8_combined 114 = .ok (.aload_n 0, 1) := by decide +kernel
theorem dX8_combined_115 : decode cX8_combined 115 = .ok (.iload_n 1, 1) := by decide +kernel
theorem dX8_combined_116 : decode cX8_combined 116 = .ok (.iconst 5, 1) := by decide +kernel
theorem dX8_combined_117 : decode cX8_combined 117 = .ok (.invokevirtual 55, 3) := by decide +kernel
theorem dX8_combined_120 : decode cX8_combined 120 = .ok (.iload 4, 2) := by decide +kernel
theorem dX8_combined_122 : decode cX8_combined 122 = .ok (.if_icmp .eq 7, 3) := by decide +kernel
theorem dX8_combined_125 : decode cX8_combined 125 = .ok (.iconst 1, 1) := by decide +kernel
theorem dX8_combined_126 : decode cX8_combined 126 = .ok (.goto 4, 3) := by decide +kernel
theorem dX8_combined_129 : decode cX8_combined 129 = .ok (.iconst 0, 1) := by decide +kernel
theorem dX8_combined_130 : decode cX8_combined 130 = .ok (.iadd, 1) := by decide +kernel
theorem dX8_combined_131 : decode cX8_combined 131 = .ok (.istore 5, 2) := by decide +kernel
theorem dX8_combined_133 : decode cX8_combined 133 = .ok (.aload_n 0, 1) := by decide +kernel
theorem dX8_combined_134 : decode cX8_combined 134 = .ok (.iload_n 1, 1) := by decide +kernel
theorem dX8_combined_135 : decode cX8_combined 135 = .ok (.iload_n 2, 1) := by decide +kernel
theorem dX8_combined_136 : decode cX8_combined 136 = .ok (.iload_n 3, 1) := by decide +kernel
theorem dX8_combined_137 : decode cX8_combined 137 = .ok (.iload 4, 2) := by decide +kernel
theorem dX8_combined_139 : decode cX8_combined 139 = .ok (.invokevirtual 77, 3) := by decide +kernel
theorem dX8_combined_142 : decode cX8_combined 142 = .ok (.iload 5, 2) := by decide +kernel
theorem dX8_combined_144 : decode cX8_combined 144 = .ok (.ireturn, 1) := by decide +kernel
theorem dX8_setCombination_0 : decode cX8_setCombination 0 = .ok (.aload_n 0, 1) := by decide +kernel
theorem dX8_setCombination_1 : decode cX8_setCombination 1 = .ok (.invokevirtual 81, 3) := by decide +kernel
theorem dX8_setCombination_4 : decode cX8_setCombination 4 = .ok (.aload_n 0, 1) := by decide +kernel
theorem dX8_setCombination_5 : decode cX8_setCombination 5 = .ok (.aload_n 0, 1) := by decide +kernel
theorem dX8_setCombination_6 : decode cX8_setCombination 6 = .ok (.iload_n 1, 1) := by decide +kernel
theorem dX8_setCombination_7 : decode cX8_setCombination 7 = .ok (.iload_n 2, 1) := by decide +kernel
theorem dX8_setCombination_8 : decode cX8_setCombination 8 = .ok (.iload_n 3, 1) := by decide +kernel
theorem dX8_setCombination_9 : decode cX8_setCombination 9 = .ok (.iload 4, 2) := by decide +kernel
theorem dX8_setCombination_11 : decode cX8_setCombination 11 = .ok (.invokevirtual 127, 3) := by decide +kernel
theorem dX8_setCombination_14 : decode cX8_setCombination 14 = .ok (.invokevirtual 88, 3) := by decide +kernel
theorem dX8_setCombination_17 : decode cX8_setCombination 17 = .ok (.ireturn, 1) := by decide +kernel
theorem dX8_damps_0 : decode cX8_damps 0 = .ok (.aload_n 0, 1) := by decide +kernel
theorem dX8_damps_1 : decode cX8_damps 1 = .ok (.iload_n 1, 1) := by decide +kernel
theorem dX8_damps_2 : decode cX8_damps 2 = .ok (.iconst 0, 1) := by decide +kernel
theorem dX8_damps_3 : decode cX8_damps 3 = .ok (.bipush 9, 2) := by decide +kernel
theorem dX8_damps_5 : decode cX8_damps 5 = .ok (.invokestatic 51, 3) := by decide +kernel
theorem dX8_damps_8 : decode cX8_damps 8 = .ok (.ifCond .ne 7, 3) := by decide +kernel
theorem dX8_damps_11 : decode cX8_damps 11 = .ok (.iconst 1, 1) := by decide +kernel
theorem dX8_damps_12 : decode cX8_damps 12 = .ok (.goto 4, 3) := by decide +kernel
theorem dX8_damps_15 : decode cX8_damps 15 = .ok (.iconst 0, 1) := by decide +kernel
theorem dX8_damps_16 : decode cX8_damps 16 = .ok (.iconst 1, 1) := by decide +kernel
theorem dX8_damps_17 : decode cX8_damps 17 = .ok (.invokevirtual 73, 3) := by decide +kernel
theorem dX8_damps_20 : decode cX8_damps 20 = .ok (.ifCond .eq 5, 3) := by decide +kernel
theorem dX8_damps_23 : decode cX8_damps 23 = .ok (.iconst 0, 1) := by decide +kernel
theorem dX8_damps_24 : decode cX8_damps 24 = .ok (.ireturn, 1) := by decide +kernel
theorem dX8_damps_25 : decode cX8_damps 25 = .ok (.aload_n 0, 1) := by decide +kernel
theorem dX8_damps_26 : decode cX8_damps 26 = .ok (.getfield 9, 3) := by decide +kernel
theorem dX8_damps_29 : decode cX8_damps 29 = .ok (.iconst 1, 1) := by decide +kernel
theorem dX8_damps_30 : decode cX8_damps 30 = .ok (.iaload, 1) := by decide +kernel
theorem dX8_damps_31 : decode cX8_damps 31 = .ok (.istore_n 2, 1) := by decide +kernel
theorem dX8_damps_32 : decode cX8_damps 32 = .ok (.aload_n 0, 1) := by decide +kernel
theorem dX8_damps_33 : decode cX8_damps 33 = .ok (.getfield 9, 3) := by decide +kernel
theorem dX8_damps_36 : decode cX8_damps 36 = .ok (.iconst 1, 1) := by decide +kernel
theorem dX8_damps_37 : decode cX8_damps 37 = .ok (.iload_n 1, 1) := by decide +kernel
theorem dX8_damps_38 : decode cX8_damps 38 = .ok (.iastore, 1) := by decide +kernel
theorem dX8_damps_39 : decode cX8_damps 39 = .ok (.iload_n 2, 1) := by decide +kernel
theorem dX8_damps_40 : decode cX8_damps 40 = .ok (.ireturn, 1) := by decide +kernel
theorem dX8_setDamp_0 : decode cX8_setDamp 0 = .ok (.aload_n 0, 1) := by decide +kernel
theorem dX8_setDamp_1 : decode cX8_setDamp 1 = .ok (.invokevirtual 81, 3) := by decide +kernel
theorem dX8_setDamp_4 : decode cX8_setDamp 4 = .ok (.aload_n 0, 1) := by decide +kernel
theorem dX8_setDamp_5 : decode cX8_setDamp 5 = .ok (.aload_n 0, 1) := by decide +kernel
theorem dX8_setDamp_6 : decode cX8_setDamp 6 = .ok (.iload_n 1, 1) := by decide +kernel
theorem dX8_setDamp_7 : decode cX8_setDamp 7 = .ok (.invokevirtual 131, 3) := by decide +kernel
theorem dX8_setDamp_10 : decode cX8_setDamp 10 = .ok (.invokevirtual 88, 3) := by decide +kernel
theorem dX8_setDamp_13 : decode cX8_setDamp 13 = .ok (.ireturn, 1) := by decide +kernel
theorem dX8_bakings_0 : decode cX8_bakings 0 = .ok (.aload_n 0, 1) := by decide +kernel
theorem dX8_bakings_1 : decode cX8_bakings 1 = .ok (.aload_n 0, 1) := by decide +kernel
theorem dX8_bakings_2 : decode cX8_bakings 2 = .ok (.iload_n 1, 1) := by decide +kernel
theorem dX8_bakings_3 : decode cX8_bakings 3 = .ok (.invokevirtual 92, 3) := by decide +kernel
theorem dX8_bakings_6 : decode cX8_bakings 6 = .ok (.ifCond .eq 10, 3) := by decide +kernel
theorem dX8_bakings_9 : decode cX8_bakings 9 = .ok (.iload_n 2, 1) := by decide +kernel
theorem dX8_bakings_10 : decode cX8_bakings 10 = .ok (.invokestatic 134, 3) := by decide +kernel
theorem dX8_bakings_13 : decode cX8_bakings 13 = .ok (.ifCond .ne 7, 3) := by decide +kernel
theorem dX8_bakings_16 : decode cX8_bakings 16 = .ok (.iconst 1, 1) := by decide +kernel
theorem dX8_bakings_17 : decode cX8_bakings 17 = .ok (.goto 4, 3) := by decide +kernel
theorem dX8_bakings_20 : decode cX8_bakings 20 = .ok (.iconst 0, 1) := by decide +kernel
theorem dX8_bakings_21 : decode cX8_bakings 21 = .ok (.iconst 1, 1) := by decide +kernel
theorem dX8_bakings_22 : decode cX8_bakings 22 = .ok (.invokevirtual 73, 3) := by decide +kernel
theorem dX8_bakings_25 : decode cX8_bakings 25 = .ok (.ifCond .ne 38, 3) := by decide +kernel
theorem dX8_bakings_28 : decode cX8_bakings 28 = .ok (.aload_n 0, 1) := by decide +kernel
theorem dX8_bakings_29 : decode cX8_bakings 29 = .ok (.aload_n 0, 1) := by decide +kernel
theorem dX8_bakings_30 : decode cX8_bakings 30 = .ok (.iload_n 1, 1) := by decide +kernel
theorem dX8_bakings_31 : decode cX8_bakings 31 = .ok (.invokevirtual 59, 3) := by decide +kernel
theorem dX8_bakings_34 : decode cX8_bakings 34 = .ok (.iconst 2, 1) := by decide +kernel
theorem dX8_bakings_35 : decode cX8_bakings 35 = .ok (.invokevirtual 73, 3) := by decide +kernel
theorem dX8_bakings_38 : decode cX8_bakings 38 = .ok (.ifCond .ne 25, 3) := by decide +kernel
theorem dX8_bakings_41 : decode cX8_bakings 41 = .ok (.aload_n 0, 1) := by decide +kernel
theorem dX8_bakings_42 : decode cX8_bakings 42 = .ok (.aload_n 0, 1) := by decide +kernel
theorem dX8_bakings_43 : decode cX8_bakings 43 = .ok (.iload_n 2, 1) := by decide +kernel
theorem dX8_bakings_44 : decode cX8_bakings 44 = .ok (.iconst 0, 1) := by decide +kernel
theorem dX8_bakings_45 : decode cX8_bakings 45 = .ok (.invokevirtual 137, 3) := by decide +kernel
theorem dX8_bakings_48 : decode cX8_bakings 48 = .ok (.ifCond .le 7, 3) := by decide +kernel
theorem dX8_bakings_51 : decode cX8_bakings 51 = .ok (.iconst 1, 1) := by decide +kernel
theorem dX8_bakings_52 : decode cX8_bakings 52 = .ok (.goto 4, 3) := by decide +kernel
theorem dX8_bakings_55 : decode cX8_bakings 55 = .ok (.iconst 0, 1) := by decide +kernel
theorem dX8_bakings_56 : decode cX8_bakings 56 = .ok (.iconst 3, 1) := by decide +kernel
theorem dX8_bakings_57 : decode cX8_bakings 57 = .ok (.invokevirtual 73, 3) := by decide +kernel
theorem dX8_bakings_60 : decode cX8_bakings 60 = .ok (.ifCond .eq 5, 3) := by decide +kernel
theorem dX8_bakings_63 : decode cX8_bakings 63 = .ok (.iconst 0, 1) := by decide +kernel
theorem dX8_bakings_64 : decode cX8_bakings 64 = .ok (.ireturn, 1) := by decide +kernel
theorem dX8_bakings_65 : decode cX8_bakings 65 = .ok (.iconst 1, 1) := by decide +kernel
theorem dX8_bakings_66 : decode cX8_bakings 66 = .ok (.aload_n 0, 1) := by decide +kernel
theorem dX8_bakings_67 : decode cX8_bakings 67 = .ok (.iload_n 1, 1) := by decide +kernel
theorem dX8_bakings_68 : decode cX8_bakings 68 = .ok (.bipush 7, 2) := by decide +kernel
theorem dX8_bakings_70 : decode cX8_bakings 70 = .ok (.invokevirtual 55, 3) := by decide +kernel
theorem dX8_bakings_73 : decode cX8_bakings 73 = .ok (.iconst 4, 1) := by decide +kernel
theorem dX8_bakings_74 : decode cX8_bakings 74 = .ok (.idiv, 1) := by decide +kernel
theorem dX8_bakings_75 : decode cX8_bakings 75 = .ok (.iadd, 1) := by decide +kernel
theorem dX8_bakings_76 : decode cX8_bakings 76 = .ok (.istore_n 3, 1) := by decide +kernel
theorem dX8_bakings_77 : decode cX8_bakings 77 = .ok (.aload_n 0, 1) := by decide +kernel
theorem dX8_bakings_78 : decode cX8_bakings 78 = .ok (.iload_n 1, 1) := by decide +kernel
theorem dX8_bakings_79 : decode cX8_bakings 79 = .ok (.bipush 8, 2) := by decide +kernel
theorem dX8_bakings_81 : decode cX8_bakings 81 = .ok (.iload_n 2, 1) := by decide +kernel
theorem dX8_bakings_82 : decode cX8_bakings 82 = .ok (.iconst 1, 1) := by decide +kernel
theorem dX8_bakings_83 : decode cX8_bakings 83 = .ok (.iadd, 1) := by decide +kernel
theorem dX8_bakings_84 : decode cX8_bakings 84 = .ok (.invokevirtual 66, 3) := by decide +kernel
theorem dX8_bakings_87 : decode cX8_bakings 87 = .ok (.aload_n 0, 1) := by decide +kernel
theorem dX8_bakings_88 : decode cX8_bakings 88 = .ok (.iload_n 2, 1) := by decide +kernel
theorem dX8_bakings_89 : decode cX8_bakings 89 = .ok (.iconst 0, 1) := by decide +kernel
theorem dX8_bakings_90 : decode cX8_bakings 90 = .ok (.iload_n 1, 1) := by decide +kernel
theorem dX8_bakings_91 : decode cX8_bakings 91 = .ok (.iconst 1, 1) := by decide +kernel
theorem dX8_bakings_92 : decode cX8_bakings 92 = .ok (.iadd, 1) := by decide +kernel
theorem dX8_bakings_93 : decode cX8_bakings 93 = .ok (.invokevirtual 140, 3) := by decide +kernel
theorem dX8_bakings_96 : decode cX8_bakings 96 = .ok (.aload_n 0, 1) := by decide +kernel
theorem dX8_bakings_97 : decode cX8_bakings 97 = .ok (.iload_n 2, 1) := by decide +kernel
theorem dX8_bakings_98 : decode cX8_bakings 98 = .ok (.iconst 1, 1) := by decide +kernel
theorem dX8_bakings_99 : decode cX8_bakings 99 = .ok (.iload_n 3, 1) := by decide +kernel
theorem dX8_bakings_100 : decode cX8_bakings 100 = .ok (.invokevirtual 140, 3) := by decide +kernel
theorem dX8_bakings_103 : decode cX8_bakings 103 = .ok (.iload_n 3, 1) := by decide +kernel
theorem dX8_bakings_104 : decode cX8_bakings 104 = .ok (.ireturn, 1) := by decide +kernel
theorem dX8_bake_0 : decode cX8_bake 0 = .ok (.aload_n 0, 1) := by decide +kernel
theorem dX8_bake_1 : decode cX8_bake 1 = .ok (.invokevirtual 81, 3) := by decide +kernel
theorem dX8_bake_4 : decode cX8_bake 4 = .ok (.aload_n 0, 1) := by decide +kernel
theorem dX8_bake_5 : decode cX8_bake 5 = .ok (.aload_n 0, 1) := by decide +kernel
theorem dX8_bake_6 : decode cX8_bake 6 = .ok (.iload_n 1, 1) := by decide +kernel
theorem dX8_bake_7 : decode cX8_bake 7 = .ok (.iload_n 2, 1) := by decide +kernel
theorem dX8_bake_8 : decode cX8_bake 8 = .ok (.invokevirtual 143, 3) := by decide +kernel
theorem dX8_bake_11 : decode cX8_bake 11 = .ok (.invokevirtual 88, 3) := by decide +kernel
theorem dX8_bake_14 : decode cX8_bake 14 = .ok (.ireturn, 1) := by decide +kernel
theorem dX8_drifts_0 : decode cX8_drifts 0 = .ok (.aload_n 0, 1) := by decide +kernel
theorem dX8_drifts_1 : decode cX8_drifts 1 = .ok (.getfield 9, 3) := by decide +kernel
theorem dX8_drifts_4 : decode cX8_drifts 4 = .ok (.iconst 0, 1) := by decide +kernel
theorem dX8_drifts_5 : decode cX8_drifts 5 = .ok (.iaload, 1) := by decide +kernel
theorem dX8_drifts_6 : decode cX8_drifts 6 = .ok (.iconst 3, 1) := by decide +kernel
theorem dX8_drifts_7 : decode cX8_drifts 7 = .ok (.irem, 1) := by decide +kernel
theorem dX8_drifts_8 : decode cX8_drifts 8 = .ok (.istore_n 1, 1) := by decide +kernel
theorem dX8_drifts_9 : decode cX8_drifts 9 = .ok (.iconst 0, 1) := by decide +kernel
theorem dX8_drifts_10 : decode cX8_drifts 10 = .ok (.istore_n 2, 1) := by decide +kernel
theorem dX8_drifts_11 : decode cX8_drifts 11 = .ok (.iload_n 2, 1) := by decide +kernel
theorem dX8_drifts_12 : decode cX8_drifts 12 = .ok (.aload_n 0, 1) := by decide +kernel
theorem dX8_drifts_13 : decode cX8_drifts 13 = .ok (.getfield 9, 3) := by decide +kernel
theorem dX8_drifts_16 : decode cX8_drifts 16 = .ok (.iconst 2, 1) := by decide +kernel
theorem dX8_drifts_17 : decode cX8_drifts 17 = .ok (.iaload, 1) := by decide +kernel
theorem dX8_drifts_18 : decode cX8_drifts 18 = .ok (.if_icmp .ge 38, 3) := by decide +kernel
theorem dX8_drifts_21 : decode cX8_drifts 21 = .ok (.aload_n 0, 1) := by decide +kernel
theorem dX8_drifts_22 : decode cX8_drifts 22 = .ok (.iload_n 2, 1) := by decide +kernel
theorem dX8_drifts_23 : decode cX8_drifts 23 = .ok (.invokevirtual 101, 3) := by decide +kernel
theorem dX8_drifts_26 : decode cX8_drifts 26 = .ok (.ifCond .ne 24, 3) := by decide +kernel
theorem dX8_drifts_29 : decode cX8_drifts 29 = .ok (.aload_n 0, 1) := by decide +kernel
theorem dX8_drifts_30 : decode cX8_drifts 30 = .ok (.iload_n 2, 1) := by decide +kernel
theorem dX8_drifts_31 : decode cX8_drifts 31 = .ok (.iconst 0, 1) := by decide +kernel
theorem dX8_drifts_32 : decode cX8_drifts 32 = .ok (.iload_n 1, 1) := by decide +kernel
theorem dX8_drifts_33 : decode cX8_drifts 33 = .ok (.iadd, 1) := by decide +kernel
theorem dX8_drifts_34 : decode cX8_drifts 34 = .ok (.aload_n 0, 1) := by decide +kernel
theorem dX8_drifts_35 : decode cX8_drifts 35 = .ok (.iload_n 2, 1) := by decide +kernel
theorem dX8_drifts_36 : decode cX8_drifts 36 = .ok (.iconst 0, 1) := by decide +kernel
theorem dX8_drifts_37 : decode cX8_drifts 37 = .ok (.iload_n 1, 1) := by decide +kernel
theorem dX8_drifts_38 : decode cX8_drifts 38 = .ok (.iadd, 1) := by decide +kernel
theorem dX8_drifts_39 : decode cX8_drifts 39 = .ok (.invokevirtual 55, 3) := by decide +kernel
theorem dX8_drifts_42 : decode cX8_drifts 42 = .ok (.iconst 1, 1) := by decide +kernel
theorem dX8_drifts_43 : decode cX8_drifts 43 = .ok (.iadd, 1) := by decide +kernel
theorem dX8_drifts_44 : decode cX8_drifts 44 = .ok (.bipush 10, 2) := by decide +kernel
theorem dX8_drifts_46 : decode cX8_drifts 46 = .ok (.irem, 1) := by decide +kernel
theorem dX8_drifts_47 : decode cX8_drifts 47 = .ok (.invokevirtual 66, 3) := by decide +kernel
theorem dX8_drifts_50 : decode cX8_drifts 50 = .ok (.iinc 2 1, 3) := by decide +kernel
theorem dX8_drifts_53 : decode cX8_drifts 53 = .ok (.goto (-42), 3) := by decide +kernel
theorem dX8_drifts_56 : decode cX8_drifts 56 = .ok (.return_, 1) := by decide +kernel
theorem dX8_heats_0 : decode cX8_heats 0 = .ok (.aload_n 0, 1) := by decide +kernel
theorem dX8_heats_1 : decode cX8_heats 1 = .ok (.iload_n 1, 1) := by decide +kernel
theorem dX8_heats_2 : decode cX8_heats 2 = .ok (.iconst 0, 1) := by decide +kernel
theorem dX8_heats_3 : decode cX8_heats 3 = .ok (.invokevirtual 137, 3) := by decide +kernel
theorem dX8_heats_6 : decode cX8_heats 6 = .ok (.ifCond .ne 4, 3) := by decide +kernel
theorem dX8_heats_9 : decode cX8_heats 9 = .ok (.return_, 1) := by decide +kernel
theorem dX8_heats_10 : decode cX8_heats 10 = .ok (.aload_n 0, 1) := by decide +kernel
theorem dX8_heats_11 : decode cX8_heats 11 = .ok (.iload_n 1, 1) := by decide +kernel
theorem dX8_heats_12 : decode cX8_heats 12 = .ok (.iconst 1, 1) := by decide +kernel
theorem dX8_heats_13 : decode cX8_heats 13 = .ok (.aload_n 0, 1) := by decide +kernel
theorem dX8_heats_14 : decode cX8_heats 14 = .ok (.iload_n 1, 1) := by decide +kernel
theorem dX8_heats_15 : decode cX8_heats 15 = .ok (.iconst 1, 1) := by decide +kernel
theorem dX8_heats_16 : decode cX8_heats 16 = .ok (.invokevirtual 137, 3) := by decide +kernel
theorem dX8_heats_19 : decode cX8_heats 19 = .ok (.iconst 1, 1) := by decide +kernel
theorem dX8_heats_20 : decode cX8_heats 20 = .ok (.isub, 1) := by decide +kernel
theorem dX8_heats_21 : decode cX8_heats 21 = .ok (.invokevirtual 140, 3) := by decide +kernel
theorem dX8_heats_24 : decode cX8_heats 24 = .ok (.aload_n 0, 1) := by decide +kernel
theorem dX8_heats_25 : decode cX8_heats 25 = .ok (.iload_n 1, 1) := by decide +kernel
theorem dX8_heats_26 : decode cX8_heats 26 = .ok (.iconst 1, 1) := by decide +kernel
theorem dX8_heats_27 : decode cX8_heats 27 = .ok (.invokevirtual 137, 3) := by decide +kernel
theorem dX8_heats_30 : decode cX8_heats 30 = .ok (.ifCond .le 4, 3) := by decide +kernel
theorem dX8_heats_33 : decode cX8_heats 33 = .ok (.return_, 1) := by decide +kernel
theorem dX8_heats_34 : decode cX8_heats 34 = .ok (.aload_n 0, 1) := by decide +kernel
theorem dX8_heats_35 : decode cX8_heats 35 = .ok (.iload_n 1, 1) := by decide +kernel
theorem dX8_heats_36 : decode cX8_heats 36 = .ok (.iconst 0, 1) := by decide +kernel
theorem dX8_heats_37 : decode cX8_heats 37 = .ok (.invokevirtual 137, 3) := by decide +kernel
theorem dX8_heats_40 : decode cX8_heats 40 = .ok (.iconst 1, 1) := by decide +kernel
theorem dX8_heats_41 : decode cX8_heats 41 = .ok (.isub, 1) := by decide +kernel
theorem dX8_heats_42 : decode cX8_heats 42 = .ok (.istore_n 2, 1) := by decide +kernel
theorem dX8_heats_43 : decode cX8_heats 43 = .ok (.iconst 0, 1) := by decide +kernel
theorem dX8_heats_44 : decode cX8_heats 44 = .ok (.istore_n 3, 1) := by decide +kernel
theorem dX8_heats_45 : decode cX8_heats 45 = .ok (.iload_n 3, 1) := by decide +kernel
theorem dX8_heats_46 : decode cX8_heats 46 = .ok (.iconst 3, 1) := by decide +kernel
theorem dX8_heats_47 : decode cX8_heats 47 = .ok (.if_icmp .ge 18, 3) := by decide +kernel
theorem dX8_heats_50 : decode cX8_heats 50 = .ok (.aload_n 0, 1) := by decide +kernel
theorem dX8_heats_51 : decode cX8_heats 51 = .ok (.iload_n 2, 1) := by decide +kernel
theorem dX8_heats_52 : decode cX8_heats 52 = .ok (.iconst 0, 1) := by decide +kernel
theorem dX8_heats_53 : decode cX8_heats 53 = .ok (.iload_n 3, 1) := by decide +kernel
theorem dX8_heats_54 : decode cX8_heats 54 = .ok (.iadd, 1) := by decide +kernel
theorem dX8_heats_55 : decode cX8_heats 55 = .ok (.iconst 0, 1) := by decide +kernel
theorem dX8_heats_56 : decode cX8_heats 56 = .ok (.invokevirtual 66, 3) := by decide +kernel
theorem dX8_heats_59 : decode cX8_heats 59 = .ok (.iinc 3 1, 3) := by decide +kernel
theorem dX8_heats_62 : decode cX8_heats 62 = .ok (.goto (-17), 3) := by decide +kernel
theorem dX8_heats_65 : decode cX8_heats 65 = .ok (.aload_n 0, 1) := by decide +kernel
theorem dX8_heats_66 : decode cX8_heats 66 = .ok (.iload_n 2, 1) := by decide +kernel
theorem dX8_heats_67 : decode cX8_heats 67 = .ok (.bipush 6, 2) := by decide +kernel
theorem dX8_heats_69 : decode cX8_heats 69 = .ok (.iconst 0, 1) := by decide +kernel
theorem dX8_heats_70 : decode cX8_heats 70 = .ok (.invokevirtual 66, 3) := by decide +kernel
theorem dX8_heats_73 : decode cX8_heats 73 = .ok (.aload_n 0, 1) := by decide +kernel
theorem dX8_heats_74 : decode cX8_heats 74 = .ok (.iload_n 2, 1) := by decide +kernel
theorem dX8_heats_75 : decode cX8_heats 75 = .ok (.bipush 7, 2) := by decide +kernel
theorem dX8_heats_77 : decode cX8_heats 77 = .ok (.iconst 0, 1) := by decide +kernel
theorem dX8_heats_78 : decode cX8_heats 78 = .ok (.invokevirtual 66, 3) := by decide +kernel
theorem dX8_heats_81 : decode cX8_heats 81 = .ok (.aload_n 0, 1) := by decide +kernel
theorem dX8_heats_82 : decode cX8_heats 82 = .ok (.iload_n 2, 1) := by decide +kernel
theorem dX8_heats_83 : decode cX8_heats 83 = .ok (.bipush 8, 2) := by decide +kernel
theorem dX8_heats_85 : decode cX8_heats 85 = .ok (.iconst 0, 1) := by decide +kernel
theorem dX8_heats_86 : decode cX8_heats 86 = .ok (.invokevirtual 66, 3) := by decide +kernel
theorem dX8_heats_89 : decode cX8_heats 89 = .ok (.aload_n 0, 1) := by decide +kernel
theorem dX8_heats_90 : decode cX8_heats 90 = .ok (.iload_n 1, 1) := by decide +kernel
theorem dX8_heats_91 : decode cX8_heats 91 = .ok (.iconst 0, 1) := by decide +kernel
theorem dX8_heats_92 : decode cX8_heats 92 = .ok (.iconst 0, 1) := by decide +kernel
theorem dX8_heats_93 : decode cX8_heats 93 = .ok (.invokevirtual 140, 3) := by decide +kernel
theorem dX8_heats_96 : decode cX8_heats 96 = .ok (.aload_n 0, 1) := by decide +kernel
theorem dX8_heats_97 : decode cX8_heats 97 = .ok (.getfield 9, 3) := by decide +kernel
theorem dX8_heats_100 : decode cX8_heats 100 = .ok (.iconst 5, 1) := by decide +kernel
theorem dX8_heats_101 : decode cX8_heats 101 = .ok (.dup2, 1) := by decide +kernel
theorem dX8_heats_102 : decode cX8_heats 102 = .ok (.iaload, 1) := by decide +kernel
theorem dX8_heats_103 : decode cX8_heats 103 = .ok (.iconst 1, 1) := by decide +kernel
theorem dX8_heats_104 : decode cX8_heats 104 = .ok (.iadd, 1) := by decide +kernel
theorem dX8_heats_105 : decode cX8_heats 105 = .ok (.iastore, 1) := by decide +kernel
theorem dX8_heats_106 : decode cX8_heats 106 = .ok (.return_, 1) := by decide +kernel
theorem dX8_hourPasses_0 : decode cX8_hourPasses 0 = .ok (.aload_n 0, 1) := by decide +kernel
theorem dX8_hourPasses_1 : decode cX8_hourPasses 1 = .ok (.getfield 9, 3) := by decide +kernel
theorem dX8_hourPasses_4 : decode cX8_hourPasses 4 = .ok (.iconst 0, 1) := by decide +kernel
theorem dX8_hourPasses_5 : decode cX8_hourPasses 5 = .ok (.dup2, 1) := by decide +kernel
theorem dX8_hourPasses_6 : decode cX8_hourPasses 6 = .ok (.iaload, 1) := by decide +kernel
theorem dX8_hourPasses_7 : decode cX8_hourPasses 7 = .ok (.iconst 1, 1) := by decide +kernel
theorem dX8_hourPasses_8 : decode cX8_hourPasses 8 = .ok (.iadd, 1) := by decide +kernel
theorem dX8_hourPasses_9 : decode cX8_hourPasses 9 = .ok (.iastore, 1) := by decide +kernel
theorem dX8_hourPasses_10 : decode cX8_hourPasses 10 = .ok (.aload_n 0, 1) := by decide +kernel
theorem dX8_hourPasses_11 : decode cX8_hourPasses 11 = .ok (.getfield 9, 3) := by decide +kernel
theorem dX8_hourPasses_14 : decode cX8_hourPasses 14 = .ok (.iconst 0, 1) := by decide +kernel
theorem dX8_hourPasses_15 : decode cX8_hourPasses 15 = .ok (.iaload, 1) := by decide +kernel
theorem dX8_hourPasses_16 : decode cX8_hourPasses 16 = .ok (.bipush 10, 2) := by decide +kernel
theorem dX8_hourPasses_18 : decode cX8_hourPasses 18 = .ok (.aload_n 0, 1) := by decide +kernel
theorem dX8_hourPasses_19 : decode cX8_hourPasses 19 = .ok (.getfield 9, 3) := by decide +kernel
theorem dX8_hourPasses_22 : decode cX8_hourPasses 22 = .ok (.iconst 1, 1) := by decide +kernel
theorem dX8_hourPasses_23 : decode cX8_hourPasses 23 = .ok (.iaload, 1) := by decide +kernel
theorem dX8_hourPasses_24 : decode cX8_hourPasses 24 = .ok (.isub, 1) := by decide +kernel
theorem dX8_hourPasses_25 : decode cX8_hourPasses 25 = .ok (.irem, 1) := by decide +kernel
theorem dX8_hourPasses_26 : decode cX8_hourPasses 26 = .ok (.ifCond .ne 7, 3) := by decide +kernel
theorem dX8_hourPasses_29 : decode cX8_hourPasses 29 = .ok (.aload_n 0, 1) := by decide +kernel
theorem dX8_hourPasses_30 : decode cX8_hourPasses 30 = .ok (.invokevirtual 146, 3) := by decide +kernel
theorem dX8_hourPasses_33 : decode cX8_hourPasses 33 = .ok (.iconst 0, 1) := by decide +kernel
theorem dX8_hourPasses_34 : decode cX8_hourPasses 34 = .ok (.istore_n 1, 1) := by decide +kernel
theorem dX8_hourPasses_35 : decode cX8_hourPasses 35 = .ok (.iload_n 1, 1) := by decide +kernel
theorem dX8_hourPasses_36 : decode cX8_hourPasses 36 = .ok (.iconst 2, 1) := by decide +kernel
theorem dX8_hourPasses_37 : decode cX8_hourPasses 37 = .ok (.if_icmp .ge 14, 3) := by decide +kernel
theorem dX8_hourPasses_40 : decode cX8_hourPasses 40 = .ok (.aload_n 0, 1) := by decide +kernel
theorem dX8_hourPasses_41 : decode cX8_hourPasses 41 = .ok (.iload_n 1, 1) := by decide +kernel
theorem dX8_hourPasses_42 : decode cX8_hourPasses 42 = .ok (.invokevirtual 149, 3) := by decide +kernel
theorem dX8_hourPasses_45 : decode cX8_hourPasses 45 = .ok (.iinc 1 1, 3) := by decide +kernel
theorem dX8_hourPasses_48 : decode cX8_hourPasses 48 = .ok (.goto (-13), 3) := by decide +kernel
theorem dX8_hourPasses_51 : decode cX8_hourPasses 51 = .ok (.return_, 1) := by decide +kernel
theorem dX8_waits_0 : decode cX8_waits 0 = .ok (.aload_n 0, 1) := by decide +kernel
theorem dX8_waits_1 : decode cX8_waits 1 = .ok (.iload_n 1, 1) := by decide +kernel
theorem dX8_waits_2 : decode cX8_waits 2 = .ok (.iconst 1, 1) := by decide +kernel
theorem dX8_waits_3 : decode cX8_waits 3 = .ok (.bipush 60, 2) := by decide +kernel
theorem dX8_waits_5 : decode cX8_waits 5 = .ok (.invokestatic 51, 3) := by decide +kernel
theorem dX8_waits_8 : decode cX8_waits 8 = .ok (.ifCond .ne 7, 3) := by decide +kernel
theorem dX8_waits_11 : decode cX8_waits 11 = .ok (.iconst 1, 1) := by decide +kernel
theorem dX8_waits_12 : decode cX8_waits 12 = .ok (.goto 4, 3) := by decide +kernel
theorem dX8_waits_15 : decode cX8_waits 15 = .ok (.iconst 0, 1) := by decide +kernel
theorem dX8_waits_16 : decode cX8_waits 16 = .ok (.iconst 1, 1) := by decide +kernel
theorem dX8_waits_17 : decode cX8_waits 17 = .ok (.invokevirtual 73, 3) := by decide +kernel
theorem dX8_waits_20 : decode cX8_waits 20 = .ok (.ifCond .eq 5, 3) := by decide +kernel
theorem dX8_waits_23 : decode cX8_waits 23 = .ok (.iconst 0, 1) := by decide +kernel
theorem dX8_waits_24 : decode cX8_waits 24 = .ok (.ireturn, 1) := by decide +kernel
theorem dX8_waits_25 : decode cX8_waits 25 = .ok (.aload_n 0, 1) := by decide +kernel
theorem dX8_waits_26 : decode cX8_waits 26 = .ok (.getfield 9, 3) := by decide +kernel
theorem dX8_waits_29 : decode cX8_waits 29 = .ok (.iconst 5, 1) := by decide +kernel
theorem dX8_waits_30 : decode cX8_waits 30 = .ok (.iaload, 1) := by decide +kernel
theorem dX8_waits_31 : decode cX8_waits 31 = .ok (.istore_n 2, 1) := by decide +kernel
theorem dX8_waits_32 : decode cX8_waits 32 = .ok (.iconst 0, 1) := by decide +kernel
theorem dX8_waits_33 : decode cX8_waits 33 = .ok (.istore_n 3, 1) := by decide +kernel
theorem dX8_waits_34 : decode cX8_waits 34 = .ok (.iload_n 3, 1) := by decide +kernel
theorem dX8_waits_35 : decode cX8_waits 35 = .ok (.iload_n 1, 1) := by decide +kernel
theorem dX8_waits_36 : decode cX8_waits 36 = .ok (.if_icmp .ge 13, 3) := by decide +kernel
theorem dX8_waits_39 : decode cX8_waits 39 = .ok (.aload_n 0, 1) := by decide +kernel
theorem dX8_waits_40 : decode cX8_waits 40 = .ok (.invokevirtual 153, 3) := by decide +kernel
theorem dX8_waits_43 : decode cX8_waits 43 = .ok (.iinc 3 1, 3) := by decide +kernel
theorem dX8_waits_46 : decode cX8_waits 46 = .ok (.goto (-12), 3) := by decide +kernel
theorem dX8_waits_49 : decode cX8_waits 49 = .ok (.aload_n 0, 1) := by decide +kernel
theorem dX8_waits_50 : decode cX8_waits 50 = .ok (.getfield 9, 3) := by decide +kernel
theorem dX8_waits_53 : decode cX8_waits 53 = .ok (.iconst 5, 1) := by decide +kernel
theorem dX8_waits_54 : decode cX8_waits 54 = .ok (.iaload, 1) := by decide +kernel
theorem dX8_waits_55 : decode cX8_waits 55 = .ok (.iload_n 2, 1) := by decide +kernel
theorem dX8_waits_56 : decode cX8_waits 56 = .ok (.isub, 1) := by decide +kernel
theorem dX8_waits_57 : decode cX8_waits 57 = .ok (.ireturn, 1) := by decide +kernel
theorem dX8_passHours_0 : decode cX8_passHours 0 = .ok (.aload_n 0, 1) := by decide +kernel
theorem dX8_passHours_1 : decode cX8_passHours 1 = .ok (.invokevirtual 81, 3) := by decide +kernel
theorem dX8_passHours_4 : decode cX8_passHours 4 = .ok (.aload_n 0, 1) := by decide +kernel
theorem dX8_passHours_5 : decode cX8_passHours 5 = .ok (.aload_n 0, 1) := by decide +kernel
theorem dX8_passHours_6 : decode cX8_passHours 6 = .ok (.iload_n 1, 1) := by decide +kernel
theorem dX8_passHours_7 : decode cX8_passHours 7 = .ok (.invokevirtual 156, 3) := by decide +kernel
theorem dX8_passHours_10 : decode cX8_passHours 10 = .ok (.invokevirtual 88, 3) := by decide +kernel
theorem dX8_passHours_13 : decode cX8_passHours 13 = .ok (.ireturn, 1) := by decide +kernel
theorem dX8_doorCount_0 : decode cX8_doorCount 0 = .ok (.aload_n 0, 1) := by decide +kernel
theorem dX8_doorCount_1 : decode cX8_doorCount 1 = .ok (.iconst 0, 1) := by decide +kernel
theorem dX8_doorCount_2 : decode cX8_doorCount 2 = .ok (.putfield 41, 3) := by decide +kernel
theorem dX8_doorCount_5 : decode cX8_doorCount 5 = .ok (.aload_n 0, 1) := by decide +kernel
theorem dX8_doorCount_6 : decode cX8_doorCount 6 = .ok (.getfield 9, 3) := by decide +kernel
theorem dX8_doorCount_9 : decode cX8_doorCount 9 = .ok (.iconst 2, 1) := by decide +kernel
theorem dX8_doorCount_10 : decode cX8_doorCount 10 = .ok (.iaload, 1) := by decide +kernel
theorem dX8_doorCount_11 : decode cX8_doorCount 11 = .ok (.ireturn, 1) := by decide +kernel
theorem dX8_dial_0 : decode cX8_dial 0 = .ok (.aload_n 0, 1) := by decide +kernel
theorem dX8_dial_1 : decode cX8_dial 1 = .ok (.aload_n 0, 1) := by decide +kernel
theorem dX8_dial_2 : decode cX8_dial 2 = .ok (.iload_n 1, 1) := by decide +kernel
theorem dX8_dial_3 : decode cX8_dial 3 = .ok (.invokevirtual 92, 3) := by decide +kernel
theorem dX8_dial_6 : decode cX8_dial 6 = .ok (.ifCond .eq 10, 3) := by decide +kernel
theorem dX8_dial_9 : decode cX8_dial 9 = .ok (.iload_n 2, 1) := by decide +kernel
theorem dX8_dial_10 : decode cX8_dial 10 = .ok (.invokestatic 95, 3) := by decide +kernel
theorem dX8_dial_13 : decode cX8_dial 13 = .ok (.ifCond .ne 7, 3) := by decide +kernel
theorem dX8_dial_16 : decode cX8_dial 16 = .ok (.iconst 1, 1) := by decide +kernel
theorem dX8_dial_17 : decode cX8_dial 17 = .ok (.goto 4, 3) := by decide +kernel
theorem dX8_dial_20 : decode cX8_dial 20 = .ok (.iconst 0, 1) := by decide +kernel
theorem dX8_dial_21 : decode cX8_dial 21 = .ok (.iconst 1, 1) := by decide +kernel
theorem dX8_dial_22 : decode cX8_dial 22 = .ok (.invokevirtual 73, 3) := by decide +kernel
theorem dX8_dial_25 : decode cX8_dial 25 = .ok (.ifCond .eq 7, 3) := by decide +kernel
theorem dX8_dial_28 : decode cX8_dial 28 = .ok (.iconst 0, 1) := by decide +kernel
theorem dX8_dial_29 : decode cX8_dial 29 = .ok (.goto 11, 3) := by decide +kernel
theorem dX8_dial_32 : decode cX8_dial 32 = .ok (.aload_n 0, 1) := by decide +kernel
theorem dX8_dial_33 : decode cX8_dial 33 = .ok (.iload_n 1, 1) := by decide +kernel
theorem dX8_dial_34 : decode cX8_dial 34 = .ok (.iconst 0, 1) := by decide +kernel
theorem dX8_dial_35 : decode cX8_dial 35 = .ok (.iload_n 2, 1) := by decide +kernel
theorem dX8_dial_36 : decode cX8_dial 36 = .ok (.iadd, 1) := by decide +kernel
theorem dX8_dial_37 : decode cX8_dial 37 = .ok (.invokevirtual 55, 3) := by decide +kernel
theorem dX8_dial_40 : decode cX8_dial 40 = .ok (.ireturn, 1) := by decide +kernel
theorem dX8_combination_0 : decode cX8_combination 0 = .ok (.aload_n 0, 1) := by decide +kernel
theorem dX8_combination_1 : decode cX8_combination 1 = .ok (.aload_n 0, 1) := by decide +kernel
theorem dX8_combination_2 : decode cX8_combination 2 = .ok (.iload_n 1, 1) := by decide +kernel
theorem dX8_combination_3 : decode cX8_combination 3 = .ok (.invokevirtual 92, 3) := by decide +kernel
theorem dX8_combination_6 : decode cX8_combination 6 = .ok (.ifCond .eq 10, 3) := by decide +kernel
theorem dX8_combination_9 : decode cX8_combination 9 = .ok (.iload_n 2, 1) := by decide +kernel
theorem dX8_combination_10 : decode cX8_combination 10 = .ok (.invokestatic 95, 3) := by decide +kernel
theorem dX8_combination_13 : decode cX8_combination 13 = .ok (.ifCond .ne 7, 3) := by decide +kernel
theorem dX8_combination_16 : decode cX8_combination 16 = .ok (.iconst 1, 1) := by decide +kernel
theorem dX8_combination_17 : decode cX8_combination 17 = .ok (.goto 4, 3) := by decide +kernel
theorem dX8_combination_20 : decode cX8_combination 20 = .ok (.iconst 0, 1) := by decide +kernel
theorem dX8_combination_21 : decode cX8_combination 21 = .ok (.iconst 1, 1) := by decide +kernel
theorem dX8_combination_22 : decode cX8_combination 22 = .ok (.invokevirtual 73, 3) := by decide +kernel
theorem dX8_combination_25 : decode cX8_combination 25 = .ok (.ifCond .eq 7, 3) := by decide +kernel
theorem dX8_combination_28 : decode cX8_combination 28 = .ok (.iconst 0, 1) := by decide +kernel
theorem dX8_combination_29 : decode cX8_combination 29 = .ok (.goto 11, 3) := by decide +kernel
theorem dX8_combination_32 : decode cX8_combination 32 = .ok (.aload_n 0, 1) := by decide +kernel
theorem dX8_combination_33 : decode cX8_combination 33 = .ok (.iload_n 1, 1) := by decide +kernel
theorem dX8_combination_34 : decode cX8_combination 34 = .ok (.iconst 3, 1) := by decide +kernel
theorem dX8_combination_35 : decode cX8_combination 35 = .ok (.iload_n 2, 1) := by decide +kernel
theorem dX8_combination_36 : decode cX8_combination 36 = .ok (.iadd, 1) := by decide +kernel
theorem dX8_combination_37 : decode cX8_combination 37 = .ok (.invokevirtual 55, 3) := by decide +kernel
theorem dX8_combination_40 : decode cX8_combination 40 = .ok (.ireturn, 1) := by decide +kernel
theorem dX8_isOpen_0 : decode cX8_isOpen 0 = .ok (.aload_n 0, 1) := by decide +kernel
theorem dX8_isOpen_1 : decode cX8_isOpen 1 = .ok (.aload_n 0, 1) := by decide +kernel
theorem dX8_isOpen_2 : decode cX8_isOpen 2 = .ok (.iload_n 1, 1) := by decide +kernel
theorem dX8_isOpen_3 : decode cX8_isOpen 3 = .ok (.invokevirtual 92, 3) := by decide +kernel
theorem dX8_isOpen_6 : decode cX8_isOpen 6 = .ok (.ifCond .ne 7, 3) := by decide +kernel
theorem dX8_isOpen_9 : decode cX8_isOpen 9 = .ok (.iconst 1, 1) := by decide +kernel
theorem dX8_isOpen_10 : decode cX8_isOpen 10 = .ok (.goto 4, 3) := by decide +kernel
theorem dX8_isOpen_13 : decode cX8_isOpen 13 = .ok (.iconst 0, 1) := by decide +kernel
theorem dX8_isOpen_14 : decode cX8_isOpen 14 = .ok (.iconst 1, 1) := by decide +kernel
theorem dX8_isOpen_15 : decode cX8_isOpen 15 = .ok (.invokevirtual 73, 3) := by decide +kernel
theorem dX8_isOpen_18 : decode cX8_isOpen 18 = .ok (.ifCond .ne 15, 3) := by decide +kernel
theorem dX8_isOpen_21 : decode cX8_isOpen 21 = .ok (.aload_n 0, 1) := by decide +kernel
theorem dX8_isOpen_22 : decode cX8_isOpen 22 = .ok (.iload_n 1, 1) := by decide +kernel
theorem dX8_isOpen_23 : decode cX8_isOpen 23 = .ok (.invokevirtual 101, 3) := by decide +kernel
theorem dX8_isOpen_26 : decode cX8_isOpen 26 = .ok (.ifCond .eq 7, 3) := by decide +kernel
theorem dX8_isOpen_29 : decode cX8_isOpen 29 = .ok (.iconst 1, 1) := by decide +kernel
theorem dX8_isOpen_30 : decode cX8_isOpen 30 = .ok (.goto 4, 3) := by decide +kernel
theorem dX8_isOpen_33 : decode cX8_isOpen 33 = .ok (.iconst 0, 1) := by decide +kernel
theorem dX8_isOpen_34 : decode cX8_isOpen 34 = .ok (.ireturn, 1) := by decide +kernel
theorem dX8_isBroken_0 : decode cX8_isBroken 0 = .ok (.aload_n 0, 1) := by decide +kernel
theorem dX8_isBroken_1 : decode cX8_isBroken 1 = .ok (.aload_n 0, 1) := by decide +kernel
theorem dX8_isBroken_2 : decode cX8_isBroken 2 = .ok (.iload_n 1, 1) := by decide +kernel
theorem dX8_isBroken_3 : decode cX8_isBroken 3 = .ok (.invokevirtual 92, 3) := by decide +kernel
theorem dX8_isBroken_6 : decode cX8_isBroken 6 = .ok (.ifCond .ne 7, 3) := by decide +kernel
theorem dX8_isBroken_9 : decode cX8_isBroken 9 = .ok (.iconst 1, 1) := by decide +kernel
theorem dX8_isBroken_10 : decode cX8_isBroken 10 = .ok (.goto 4, 3) := by decide +kernel
theorem dX8_isBroken_13 : decode cX8_isBroken 13 = .ok (.iconst 0, 1) := by decide +kernel
theorem dX8_isBroken_14 : decode cX8_isBroken 14 = .ok (.iconst 1, 1) := by decide +kernel
theorem dX8_isBroken_15 : decode cX8_isBroken 15 = .ok (.invokevirtual 73, 3) := by decide +kernel
theorem dX8_isBroken_18 : decode cX8_isBroken 18 = .ok (.ifCond .ne 19, 3) := by decide +kernel
theorem dX8_isBroken_21 : decode cX8_isBroken 21 = .ok (.aload_n 0, 1) := by decide +kernel
theorem dX8_isBroken_22 : decode cX8_isBroken 22 = .ok (.iload_n 1, 1) := by decide +kernel
theorem dX8_isBroken_23 : decode cX8_isBroken 23 = .ok (.bipush 7, 2) := by decide +kernel
theorem dX8_isBroken_25 : decode cX8_isBroken 25 = .ok (.invokevirtual 55, 3) := by decide +kernel
theorem dX8_isBroken_28 : decode cX8_isBroken 28 = .ok (.bipush 20, 2) := by decide +kernel
theorem dX8_isBroken_30 : decode cX8_isBroken 30 = .ok (.if_icmp .ne 7, 3) := by decide +kernel
theorem dX8_isBroken_33 : decode cX8_isBroken 33 = .ok (.iconst 1, 1) := by decide +kernel
theorem dX8_isBroken_34 : decode cX8_isBroken 34 = .ok (.goto 4, 3) := by decide +kernel
theorem dX8_isBroken_37 : decode cX8_isBroken 37 = .ok (.iconst 0, 1) := by decide +kernel
theorem dX8_isBroken_38 : decode cX8_isBroken 38 = .ok (.ireturn, 1) := by decide +kernel
theorem dX8_crumbs_0 : decode cX8_crumbs 0 = .ok (.aload_n 0, 1) := by decide +kernel
theorem dX8_crumbs_1 : decode cX8_crumbs 1 = .ok (.aload_n 0, 1) := by decide +kernel
theorem dX8_crumbs_2 : decode cX8_crumbs 2 = .ok (.iload_n 1, 1) := by decide +kernel
theorem dX8_crumbs_3 : decode cX8_crumbs 3 = .ok (.invokevirtual 92, 3) := by decide +kernel
theorem dX8_crumbs_6 : decode cX8_crumbs 6 = .ok (.ifCond .ne 7, 3) := by decide +kernel
theorem dX8_crumbs_9 : decode cX8_crumbs 9 = .ok (.iconst 1, 1) := by decide +kernel
theorem dX8_crumbs_10 : decode cX8_crumbs 10 = .ok (.goto 4, 3) := by decide +kernel
theorem dX8_crumbs_13 : decode cX8_crumbs 13 = .ok (.iconst 0, 1) := by decide +kernel
theorem dX8_crumbs_14 : decode cX8_crumbs 14 = .ok (.iconst 1, 1) := by decide +kernel
theorem dX8_crumbs_15 : decode cX8_crumbs 15 = .ok (.invokevirtual 73, 3) := by decide +kernel
theorem dX8_crumbs_18 : decode cX8_crumbs 18 = .ok (.ifCond .eq 7, 3) := by decide +kernel
theorem dX8_crumbs_21 : decode cX8_crumbs 21 = .ok (.iconst 0, 1) := by decide +kernel
theorem dX8_crumbs_22 : decode cX8_crumbs 22 = .ok (.goto 10, 3) := by decide +kernel
theorem dX8_crumbs_25 : decode cX8_crumbs 25 = .ok (.aload_n 0, 1) := by decide +kernel
theorem dX8_crumbs_26 : decode cX8_crumbs 26 = .ok (.iload_n 1, 1) := by decide +kernel
theorem dX8_crumbs_27 : decode cX8_crumbs 27 = .ok (.bipush 7, 2) := by decide +kernel
theorem dX8_crumbs_29 : decode cX8_crumbs 29 = .ok (.invokevirtual 55, 3) := by decide +kernel
theorem dX8_crumbs_32 : decode cX8_crumbs 32 = .ok (.ireturn, 1) := by decide +kernel
theorem dX8_play_0 : decode cX8_play 0 = .ok (.aload_n 0, 1) := by decide +kernel
theorem dX8_play_1 : decode cX8_play 1 = .ok (.aload_n 0, 1) := by decide +kernel
theorem dX8_play_2 : decode cX8_play 2 = .ok (.iload_n 1, 1) := by decide +kernel
theorem dX8_play_3 : decode cX8_play 3 = .ok (.invokevirtual 92, 3) := by decide +kernel
theorem dX8_play_6 : decode cX8_play 6 = .ok (.ifCond .ne 7, 3) := by decide +kernel
theorem dX8_play_9 : decode cX8_play 9 = .ok (.iconst 1, 1) := by decide +kernel
theorem dX8_play_10 : decode cX8_play 10 = .ok (.goto 4, 3) := by decide +kernel
theorem dX8_play_13 : decode cX8_play 13 = .ok (.iconst 0, 1) := by decide +kernel
theorem dX8_play_14 : decode cX8_play 14 = .ok (.iconst 1, 1) := by decide +kernel
theorem dX8_play_15 : decode cX8_play 15 = .ok (.invokevirtual 73, 3) := by decide +kernel
theorem dX8_play_18 : decode cX8_play 18 = .ok (.ifCond .eq 7, 3) := by decide +kernel
theorem dX8_play_21 : decode cX8_play 21 = .ok (.iconst 0, 1) := by decide +kernel
theorem dX8_play_22 : decode cX8_play 22 = .ok (.goto 8, 3) := by decide +kernel
theorem dX8_play_25 : decode cX8_play 25 = .ok (.aload_n 0, 1) := by decide +kernel
theorem dX8_play_26 : decode cX8_play 26 = .ok (.iload_n 1, 1) := by decide +kernel
theorem dX8_play_27 : decode cX8_play 27 = .ok (.invokevirtual 104, 3) := by decide +kernel
theorem dX8_play_30 : decode cX8_play 30 = .ok (.ireturn, 1) := by decide +kernel
theorem dX8_fittingDials_0 : decode cX8_fittingDials 0 = .ok (.aload_n 0, 1) := by decide +kernel
theorem dX8_fittingDials_1 : decode cX8_fittingDials 1 = .ok (.aload_n 0, 1) := by decide +kernel
theorem dX8_fittingDials_2 : decode cX8_fittingDials 2 = .ok (.iload_n 1, 1) := by decide +kernel
theorem dX8_fittingDials_3 : decode cX8_fittingDials 3 = .ok (.invokevirtual 92, 3) := by decide +kernel
theorem dX8_fittingDials_6 : decode cX8_fittingDials 6 = .ok (.ifCond .ne 7, 3) := by decide +kernel
theorem dX8_fittingDials_9 : decode cX8_fittingDials 9 = .ok (.iconst 1, 1) := by decide +kernel
theorem dX8_fittingDials_10 : decode cX8_fittingDials 10 = .ok (.goto 4, 3) := by decide +kernel
theorem dX8_fittingDials_13 : decode cX8_fittingDials 13 = .ok (.iconst 0, 1) := by decide +kernel
theorem dX8_fittingDials_14 : decode cX8_fittingDials 14 = .ok (.iconst 1, 1) := by decide +kernel
theorem dX8_fittingDials_15 : decode cX8_fittingDials 15 = .ok (.invokevirtual 73, 3) := by decide +kernel
theorem dX8_fittingDials_18 : decode cX8_fittingDials 18 = .ok (.ifCond .eq 7, 3) := by decide +kernel
theorem dX8_fittingDials_21 : decode cX8_fittingDials 21 = .ok (.iconst 0, 1) := by decide +kernel
theorem dX8_fittingDials_22 : decode cX8_fittingDials 22 = .ok (.goto 15, 3) := by decide +kernel
theorem dX8_fittingDials_25 : decode cX8_fittingDials 25 = .ok (.iconst 3, 1) := by decide +kernel
theorem dX8_fittingDials_26 : decode cX8_fittingDials 26 = .ok (.aload_n 0, 1) := by decide +kernel
theorem dX8_fittingDials_27 : decode cX8_fittingDials 27 = .ok (.iload_n 1, 1) := by decide +kernel
theorem dX8_fittingDials_28 : decode cX8_fittingDials 28 = .ok (.aload_n 0, 1) := by decide +kernel
theorem dX8_fittingDials_29 : decode cX8_fittingDials 29 = .ok (.iload_n 1, 1) := by decide +kernel
theorem dX8_fittingDials_30 : decode cX8_fittingDials 30 = .ok (.invokevirtual 104, 3) := by decide +kernel
theorem dX8_fittingDials_33 : decode cX8_fittingDials 33 = .ok (.invokevirtual 107, 3) := by decide +kernel
theorem dX8_fittingDials_36 : decode cX8_fittingDials 36 = .ok (.isub, 1) := by decide +kernel
theorem dX8_fittingDials_37 : decode cX8_fittingDials 37 = .ok (.ireturn, 1) := by decide +kernel
theorem dX8_steps_0 : decode cX8_steps 0 = .ok (.iconst 0, 1) := by decide +kernel
theorem dX8_steps_1 : decode cX8_steps 1 = .ok (.istore_n 2, 1) := by decide +kernel
theorem dX8_steps_2 : decode cX8_steps 2 = .ok (.iconst 0, 1) := by decide +kernel
theorem dX8_steps_3 : decode cX8_steps 3 = .ok (.istore_n 3, 1) := by decide +kernel
theorem dX8_steps_4 : decode cX8_steps 4 = .ok (.iload_n 3, 1) := by decide +kernel
theorem dX8_steps_5 : decode cX8_steps 5 = .ok (.iconst 3, 1) := by decide +kernel
theorem dX8_steps_6 : decode cX8_steps 6 = .ok (.if_icmp .ge 37, 3) := by decide +kernel
theorem dX8_steps_9 : decode cX8_steps 9 = .ok (.aload_n 0, 1) := by decide +kernel
theorem dX8_steps_10 : decode cX8_steps 10 = .ok (.iload_n 1, 1) := by decide +kernel
theorem dX8_steps_11 : decode cX8_steps 11 = .ok (.iload_n 3, 1) := by decide +kernel
theorem dX8_steps_12 : decode cX8_steps 12 = .ok (.invokevirtual 63, 3) := by decide +kernel
theorem dX8_steps_15 : decode cX8_steps 15 = .ok (.aload_n 0, 1) := by decide +kernel
theorem dX8_steps_16 : decode cX8_steps 16 = .ok (.iload_n 1, 1) := by decide +kernel
theorem dX8_steps_17 : decode cX8_steps 17 = .ok (.invokevirtual 104, 3) := by decide +kernel
theorem dX8_steps_20 : decode cX8_steps 20 = .ok (.isub, 1) := by decide +kernel
theorem dX8_steps_21 : decode cX8_steps 21 = .ok (.istore 4, 2) := by decide +kernel
theorem dX8_steps_23 : decode cX8_steps 23 = .ok (.iload_n 2, 1) := by decide +kernel
theorem dX8_steps_24 : decode cX8_steps 24 = .ok (.iload 4, 2) := by decide +kernel
theorem dX8_steps_26 : decode cX8_steps 26 = .ok (.ifCond .le 8, 3) := by decide +kernel
theorem dX8_steps_29 : decode cX8_steps 29 = .ok (.iload 4, 2) := by decide +kernel
theorem dX8_steps_31 : decode cX8_steps 31 = .ok (.goto 4, 3) := by decide +kernel
theorem dX8_steps_34 : decode cX8_steps 34 = .ok (.iconst 0, 1) := by decide +kernel
theorem dX8_steps_35 : decode cX8_steps 35 = .ok (.iadd, 1) := by decide +kernel
theorem dX8_steps_36 : decode cX8_steps 36 = .ok (.istore_n 2, 1) := by decide +kernel
theorem dX8_steps_37 : decode cX8_steps 37 = .ok (.iinc 3 1, 3) := by decide +kernel
theorem dX8_steps_40 : decode cX8_steps 40 = .ok (.goto (-36), 3) := by decide +kernel
theorem dX8_steps_43 : decode cX8_steps 43 = .ok (.iload_n 2, 1) := by decide +kernel
theorem dX8_steps_44 : decode cX8_steps 44 = .ok (.ireturn, 1) := by decide +kernel
theorem dX8_stepsToOpen_0 : decode cX8_stepsToOpen 0 = .ok (.aload_n 0, 1) := by decide +kernel
theorem dX8_stepsToOpen_1 : decode cX8_stepsToOpen 1 = .ok (.aload_n 0, 1) := by decide +kernel
theorem dX8_stepsToOpen_2 : decode cX8_stepsToOpen 2 = .ok (.iload_n 1, 1) := by decide +kernel
theorem dX8_stepsToOpen_3 : decode cX8_stepsToOpen 3 = .ok (.invokevirtual 92, 3) := by decide +kernel
theorem dX8_stepsToOpen_6 : decode cX8_stepsToOpen 6 = .ok (.ifCond .ne 7, 3) := by decide +kernel
theorem dX8_stepsToOpen_9 : decode cX8_stepsToOpen 9 = .ok (.iconst 1, 1) := by decide +kernel
theorem dX8_stepsToOpen_10 : decode cX8_stepsToOpen 10 = .ok (.goto 4, 3) := by decide +kernel
theorem dX8_stepsToOpen_13 : decode cX8_stepsToOpen 13 = .ok (.iconst 0, 1) := by decide +kernel
theorem dX8_stepsToOpen_14 : decode cX8_stepsToOpen 14 = .ok (.iconst 1, 1) := by decide +kernel
theorem dX8_stepsToOpen_15 : decode cX8_stepsToOpen 15 = .ok (.invokevirtual 73, 3) := by decide +kernel
theorem dX8_stepsToOpen_18 : decode cX8_stepsToOpen 18 = .ok (.ifCond .eq 7, 3) := by decide +kernel
theorem dX8_stepsToOpen_21 : decode cX8_stepsToOpen 21 = .ok (.iconst 0, 1) := by decide +kernel
theorem dX8_stepsToOpen_22 : decode cX8_stepsToOpen 22 = .ok (.goto 8, 3) := by decide +kernel
theorem dX8_stepsToOpen_25 : decode cX8_stepsToOpen 25 = .ok (.aload_n 0, 1) := by decide +kernel
theorem dX8_stepsToOpen_26 : decode cX8_stepsToOpen 26 = .ok (.iload_n 1, 1) := by decide +kernel
theorem dX8_stepsToOpen_27 : decode cX8_stepsToOpen 27 = .ok (.invokevirtual 159, 3) := by decide +kernel
theorem dX8_stepsToOpen_30 : decode cX8_stepsToOpen 30 = .ok (.ireturn, 1) := by decide +kernel
theorem dX8_stepsToOpenByTurning_0 : decode cX8_stepsToOpenByTurning 0 = .ok (.aload_n 0, 1) := by decide +kernel
theorem dX8_stepsToOpenByTurning_1 : decode cX8_stepsToOpenByTurning 1 = .ok (.iload_n 1, 1) := by decide +kernel
theorem dX8_stepsToOpenByTurning_2 : decode cX8_stepsToOpenByTurning 2 = .ok (.invokevirtual 162, 3) := by decide +kernel
theorem dX8_stepsToOpenByTurning_5 : decode cX8_stepsToOpenByTurning 5 = .ok (.ireturn, 1) := by decide +kernel
theorem dX8_openingSettings_0 : decode cX8_openingSettings 0 = .ok (.aload_n 0, 1) := by decide +kernel
theorem dX8_openingSettings_1 : decode cX8_openingSettings 1 = .ok (.aload_n 0, 1) := by decide +kernel
theorem dX8_openingSettings_2 : decode cX8_openingSettings 2 = .ok (.iload_n 1, 1) := by decide +kernel
theorem dX8_openingSettings_3 : decode cX8_openingSettings 3 = .ok (.invokevirtual 92, 3) := by decide +kernel
theorem dX8_openingSettings_6 : decode cX8_openingSettings 6 = .ok (.ifCond .ne 7, 3) := by decide +kernel
theorem dX8_openingSettings_9 : decode cX8_openingSettings 9 = .ok (.iconst 1, 1) := by decide +kernel
theorem dX8_openingSettings_10 : decode cX8_openingSettings 10 = .ok (.goto 4, 3) := by decide +kernel
theorem dX8_openingSettings_13 : decode cX8_openingSettings 13 = .ok (.iconst 0, 1) := by decide +kernel
theorem dX8_openingSettings_14 : decode cX8_openingSettings 14 = .ok (.iconst 1, 1) := by decide +kernel
theorem dX8_openingSettings_15 : decode cX8_openingSettings 15 = .ok (.invokevirtual 73, 3) := by decide +kernel
theorem dX8_openingSettings_18 : decode cX8_openingSettings 18 = .ok (.ifCond .eq 5, 3) := by decide +kernel
theorem dX8_openingSettings_21 : decode cX8_openingSettings 21 = .ok (.iconst 0, 1) := by decide +kernel
theorem dX8_openingSettings_22 : decode cX8_openingSettings 22 = .ok (.ireturn, 1) := by decide +kernel
theorem dX8_openingSettings_23 : decode cX8_openingSettings 23 = .ok (.iconst 2, 1) := by decide +kernel
theorem dX8_openingSettings_24 : decode cX8_openingSettings 24 = .ok (.aload_n 0, 1) := by decide +kernel
theorem dX8_openingSettings_25 : decode cX8_openingSettings 25 = .ok (.iload_n 1, 1) := by decide +kernel
theorem dX8_openingSettings_26 : decode cX8_openingSettings 26 = .ok (.invokevirtual 104, 3) := by decide +kernel
theorem dX8_openingSettings_29 : decode cX8_openingSettings 29 = .ok (.imul, 1) := by decide +kernel
theorem dX8_openingSettings_30 : decode cX8_openingSettings 30 = .ok (.iconst 1, 1) := by decide +kernel
theorem dX8_openingSettings_31 : decode cX8_openingSettings 31 = .ok (.iadd, 1) := by decide +kernel
theorem dX8_openingSettings_32 : decode cX8_openingSettings 32 = .ok (.istore_n 2, 1) := by decide +kernel
theorem dX8_openingSettings_33 : decode cX8_openingSettings 33 = .ok (.iload_n 2, 1) := by decide +kernel
theorem dX8_openingSettings_34 : decode cX8_openingSettings 34 = .ok (.iload_n 2, 1) := by decide +kernel
theorem dX8_openingSettings_35 : decode cX8_openingSettings 35 = .ok (.imul, 1) := by decide +kernel
theorem dX8_openingSettings_36 : decode cX8_openingSettings 36 = .ok (.iload_n 2, 1) := by decide +kernel
theorem dX8_openingSettings_37 : decode cX8_openingSettings 37 = .ok (.imul, 1) := by decide +kernel
theorem dX8_openingSettings_38 : decode cX8_openingSettings 38 = .ok (.ireturn, 1) := by decide +kernel
theorem dX8_triesUntilBroken_0 : decode cX8_triesUntilBroken 0 = .ok (.aload_n 0, 1) := by decide +kernel
theorem dX8_triesUntilBroken_1 : decode cX8_triesUntilBroken 1 = .ok (.aload_n 0, 1) := by decide +kernel
theorem dX8_triesUntilBroken_2 : decode cX8_triesUntilBroken 2 = .ok (.iload_n 1, 1) := by decide +kernel
theorem dX8_triesUntilBroken_3 : decode cX8_triesUntilBroken 3 = .ok (.invokevirtual 92, 3) := by decide +kernel
theorem dX8_triesUntilBroken_6 : decode cX8_triesUntilBroken 6 = .ok (.ifCond .ne 7, 3) := by decide +kernel
theorem dX8_triesUntilBroken_9 : decode cX8_triesUntilBroken 9 = .ok (.iconst 1, 1) := by decide +kernel
theorem dX8_triesUntilBroken_10 : decode cX8_triesUntilBroken 10 = .ok (.goto 4, 3) := by decide +kernel
theorem dX8_triesUntilBroken_13 : decode cX8_triesUntilBroken 13 = .ok (.iconst 0, 1) := by decide +kernel
theorem dX8_triesUntilBroken_14 : decode cX8_triesUntilBroken 14 = .ok (.iconst 1, 1) := by decide +kernel
theorem dX8_triesUntilBroken_15 : decode cX8_triesUntilBroken 15 = .ok (.invokevirtual 73, 3) := by decide +kernel
theorem dX8_triesUntilBroken_18 : decode cX8_triesUntilBroken 18 = .ok (.ifCond .eq 5, 3) := by decide +kernel
theorem dX8_triesUntilBroken_21 : decode cX8_triesUntilBroken 21 = .ok (.iconst 0, 1) := by decide +kernel
theorem dX8_triesUntilBroken_22 : decode cX8_triesUntilBroken 22 = .ok (.ireturn, 1) := by decide +kernel
theorem dX8_triesUntilBroken_23 : decode cX8_triesUntilBroken 23 = .ok (.aload_n 0, 1) := by decide +kernel
theorem dX8_triesUntilBroken_24 : decode cX8_triesUntilBroken 24 = .ok (.iload_n 1, 1) := by decide +kernel
theorem dX8_triesUntilBroken_25 : decode cX8_triesUntilBroken 25 = .ok (.bipush 7, 2) := by decide +kernel
theorem dX8_triesUntilBroken_27 : decode cX8_triesUntilBroken 27 = .ok (.invokevirtual 55, 3) := by decide +kernel
theorem dX8_triesUntilBroken_30 : decode cX8_triesUntilBroken 30 = .ok (.istore_n 2, 1) := by decide +kernel
theorem dX8_triesUntilBroken_31 : decode cX8_triesUntilBroken 31 = .ok (.iconst 0, 1) := by decide +kernel
theorem dX8_triesUntilBroken_32 : decode cX8_triesUntilBroken 32 = .ok (.istore_n 3, 1) := by decide +kernel
theorem dX8_triesUntilBroken_33 : decode cX8_triesUntilBroken 33 = .ok (.iload_n 2, 1) := by decide +kernel
theorem dX8_triesUntilBroken_34 : decode cX8_triesUntilBroken 34 = .ok (.bipush 20, 2) := by decide +kernel
theorem dX8_triesUntilBroken_36 : decode cX8_triesUntilBroken 36 = .ok (.if_icmp .ge 46, 3) := by decide +kernel
theorem dX8_triesUntilBroken_39 : decode cX8_triesUntilBroken 39 = .ok (.aload_n 0, 1) := by decide +kernel
theorem dX8_triesUntilBroken_40 : decode cX8_triesUntilBroken 40 = .ok (.iload_n 1, 1) := by decide +kernel
theorem dX8_triesUntilBroken_41 : decode cX8_triesUntilBroken 41 = .ok (.iload_n 2, 1) := by decide +kernel
theorem dX8_triesUntilBroken_42 : decode cX8_triesUntilBroken 42 = .ok (.iconst 5, 1) := by decide +kernel
theorem dX8_triesUntilBroken_43 : decode cX8_triesUntilBroken 43 = .ok (.idiv, 1) := by decide +kernel
theorem dX8_triesUntilBroken_44 : decode cX8_triesUntilBroken 44 = .ok (.invokevirtual 107, 3) := by decide +kernel
theorem dX8_triesUntilBroken_47 : decode cX8_triesUntilBroken 47 = .ok (.istore 4, 2) := by decide +kernel
theorem dX8_triesUntilBroken_49 : decode cX8_triesUntilBroken 49 = .ok (.aload_n 0, 1) := by decide +kernel
theorem dX8_triesUntilBroken_50 : decode cX8_triesUntilBroken 50 = .ok (.iload 4, 2) := by decide +kernel
theorem dX8_triesUntilBroken_52 : decode cX8_triesUntilBroken 52 = .ok (.ifCond .ne 7, 3) := by decide +kernel
theorem dX8_triesUntilBroken_55 : decode cX8_triesUntilBroken 55 = .ok (.iconst 1, 1) := by decide +kernel
theorem dX8_triesUntilBroken_56 : decode cX8_triesUntilBroken 56 = .ok (.goto 4, 3) := by decide +kernel
theorem dX8_triesUntilBroken_59 : decode cX8_triesUntilBroken 59 = .ok (.iconst 0, 1) := by decide +kernel
theorem dX8_triesUntilBroken_60 : decode cX8_triesUntilBroken 60 = .ok (.iconst 2, 1) := by decide +kernel
theorem dX8_triesUntilBroken_61 : decode cX8_triesUntilBroken 61 = .ok (.invokevirtual 73, 3) := by decide +kernel
theorem dX8_triesUntilBroken_64 : decode cX8_triesUntilBroken 64 = .ok (.ifCond .eq 5, 3) := by decide +kernel
theorem dX8_triesUntilBroken_67 : decode cX8_triesUntilBroken 67 = .ok (.iconst 0, 1) := by decide +kernel
theorem dX8_triesUntilBroken_68 : decode cX8_triesUntilBroken 68 = .ok (.ireturn, 1) := by decide +kernel
theorem dX8_triesUntilBroken_69 : decode cX8_triesUntilBroken 69 = .ok (.iload_n 2, 1) := by decide +kernel
theorem dX8_triesUntilBroken_70 : decode cX8_triesUntilBroken 70 = .ok (.iload 4, 2) := by decide +kernel
theorem dX8_triesUntilBroken_72 : decode cX8_triesUntilBroken 72 = .ok (.invokestatic 110, 3) := by decide +kernel
theorem dX8_triesUntilBroken_75 : decode cX8_triesUntilBroken 75 = .ok (.istore_n 2, 1) := by decide +kernel
theorem dX8_triesUntilBroken_76 : decode cX8_triesUntilBroken 76 = .ok (.iinc 3 1, 3) := by decide +kernel
theorem dX8_triesUntilBroken_79 : decode cX8_triesUntilBroken 79 = .ok (.goto (-46), 3) := by decide +kernel
theorem dX8_triesUntilBroken_82 : decode cX8_triesUntilBroken 82 = .ok (.iload_n 3, 1) := by decide +kernel
theorem dX8_triesUntilBroken_83 : decode cX8_triesUntilBroken 83 = .ok (.ireturn, 1) := by decide +kernel
theorem dX8_dialAfter_0 : decode cX8_dialAfter 0 = .ok (.aload_n 0, 1) := by decide +kernel
theorem dX8_dialAfter_1 : decode cX8_dialAfter 1 = .ok (.aload_n 0, 1) := by decide +kernel
theorem dX8_dialAfter_2 : decode cX8_dialAfter 2 = .ok (.iload_n 1, 1) := by decide +kernel
theorem dX8_dialAfter_3 : decode cX8_dialAfter 3 = .ok (.invokevirtual 92, 3) := by decide +kernel
theorem dX8_dialAfter_6 : decode cX8_dialAfter 6 = .ok (.ifCond .eq 10, 3) := by decide +kernel
theorem dX8_dialAfter_9 : decode cX8_dialAfter 9 = .ok (.iload_n 2, 1) := by decide +kernel
theorem dX8_dialAfter_10 : decode cX8_dialAfter 10 = .ok (.invokestatic 95, 3) := by decide +kernel
theorem dX8_dialAfter_13 : decode cX8_dialAfter 13 = .ok (.ifCond .ne 7, 3) := by decide +kernel
theorem dX8_dialAfter_16 : decode cX8_dialAfter 16 = .ok (.iconst 1, 1) := by decide +kernel
theorem dX8_dialAfter_17 : decode cX8_dialAfter 17 = .ok (.goto 4, 3) := by decide +kernel
theorem dX8_dialAfter_20 : decode cX8_dialAfter 20 = .ok (.iconst 0, 1) := by decide +kernel
theorem dX8_dialAfter_21 : decode cX8_dialAfter 21 = .ok (.iconst 1, 1) := by decide +kernel
theorem dX8_dialAfter_22 : decode cX8_dialAfter 22 = .ok (.invokevirtual 73, 3) := by decide +kernel
theorem dX8_dialAfter_25 : decode cX8_dialAfter 25 = .ok (.ifCond .ne 26, 3) := by decide +kernel
theorem dX8_dialAfter_28 : decode cX8_dialAfter 28 = .ok (.aload_n 0, 1) := by decide +kernel
theorem dX8_dialAfter_29 : decode cX8_dialAfter 29 = .ok (.iload_n 3, 1) := by decide +kernel
theorem dX8_dialAfter_30 : decode cX8_dialAfter 30 = .ok (.iconst 0, 1) := by decide +kernel
theorem dX8_dialAfter_31 : decode cX8_dialAfter 31 = .ok (.bipush 60, 2) := by decide +kernel
theorem dX8_dialAfter_33 : decode cX8_dialAfter 33 = .ok (.invokestatic 51, 3) := by decide +kernel
theorem dX8_dialAfter_36 : decode cX8_dialAfter 36 = .ok (.ifCond .ne 7, 3) := by decide +kernel
theorem dX8_dialAfter_39 : decode cX8_dialAfter 39 = .ok (.iconst 1, 1) := by decide +kernel
theorem dX8_dialAfter_40 : decode cX8_dialAfter 40 = .ok (.goto 4, 3) := by decide +kernel
theorem dX8_dialAfter_43 : decode cX8_dialAfter 43 = .ok (.iconst 0, 1) := by decide +kernel
theorem dX8_dialAfter_44 : decode cX8_dialAfter 44 = .ok (.iconst 2, 1) := by decide +kernel
theorem dX8_dialAfter_45 : decode cX8_dialAfter 45 = .ok (.invokevirtual 73, 3) := by decide +kernel
theorem dX8_dialAfter_48 : decode cX8_dialAfter 48 = .ok (.ifCond .eq 5, 3) := by decide +kernel
theorem dX8_dialAfter_51 : decode cX8_dialAfter 51 = .ok (.iconst 0, 1) := by decide +kernel
theorem dX8_dialAfter_52 : decode cX8_dialAfter 52 = .ok (.ireturn, 1) := by decide +kernel
theorem dX8_dialAfter_53 : decode cX8_dialAfter 53 = .ok (.aload_n 0, 1) := by decide +kernel
theorem dX8_dialAfter_54 : decode cX8_dialAfter 54 = .ok (.getfield 9, 3) := by decide +kernel
theorem dX8_dialAfter_57 : decode cX8_dialAfter 57 = .ok (.iconst 0, 1) := by decide +kernel
theorem dX8_dialAfter_58 : decode cX8_dialAfter 58 = .ok (.aload_n 0, 1) := by decide +kernel
theorem dX8_dialAfter_59 : decode cX8_dialAfter 59 = .ok (.getfield 16, 3) := by decide +kernel
theorem dX8_dialAfter_62 : decode cX8_dialAfter 62 = .ok (.iconst 0, 1) := by decide +kernel
theorem dX8_dialAfter_63 : decode cX8_dialAfter 63 = .ok (.invokestatic 44, 3) := by decide +kernel
theorem dX8_dialAfter_66 : decode cX8_dialAfter 66 = .ok (.iconst 0, 1) := by decide +kernel
theorem dX8_dialAfter_67 : decode cX8_dialAfter 67 = .ok (.istore 4, 2) := by decide +kernel
theorem dX8_dialAfter_69 : decode cX8_dialAfter 69 = .ok (.iload 4, 2) := by decide +kernel
theorem dX8_dialAfter_71 : decode cX8_dialAfter 71 = .ok (.iload_n 3, 1) := by decide +kernel
theorem dX8_dialAfter_72 : decode cX8_dialAfter 72 = .ok (.if_icmp .ge 13, 3) := by decide +kernel
theorem dX8_dialAfter_75 : decode cX8_dialAfter 75 = .ok (.aload_n 0, 1) := by decide +kernel
theorem dX8_dialAfter_76 : decode cX8_dialAfter 76 = .ok (.invokevirtual 153, 3) := by decide +kernel
theorem dX8_dialAfter_79 : decode cX8_dialAfter 79 = .ok (.iinc 4 1, 3) := by decide +kernel
theorem dX8_dialAfter_82 : decode cX8_dialAfter 82 = .ok (.goto (-13), 3) := by decide +kernel
theorem dX8_dialAfter_85 : decode cX8_dialAfter 85 = .ok (.aload_n 0, 1) := by decide +kernel
theorem dX8_dialAfter_86 : decode cX8_dialAfter 86 = .ok (.iload_n 1, 1) := by decide +kernel
theorem dX8_dialAfter_87 : decode cX8_dialAfter 87 = .ok (.iconst 0, 1) := by decide +kernel
theorem dX8_dialAfter_88 : decode cX8_dialAfter 88 = .ok (.iload_n 2, 1) := by decide +kernel
theorem dX8_dialAfter_89 : decode cX8_dialAfter 89 = .ok (.iadd, 1) := by decide +kernel
theorem dX8_dialAfter_90 : decode cX8_dialAfter 90 = .ok (.invokevirtual 55, 3) := by decide +kernel
theorem dX8_dialAfter_93 : decode cX8_dialAfter 93 = .ok (.istore 4, 2) := by decide +kernel
theorem dX8_dialAfter_95 : decode cX8_dialAfter 95 = .ok (.aload_n 0, 1) := by decide +kernel
theorem dX8_dialAfter_96 : decode cX8_dialAfter 96 = .ok (.getfield 16, 3) := by decide +kernel
theorem dX8_dialAfter_99 : decode cX8_dialAfter 99 = .ok (.iconst 0, 1) := by decide +kernel
theorem dX8_dialAfter_100 : decode cX8_dialAfter 100 = .ok (.aload_n 0, 1) := by decide +kernel
theorem dX8_dialAfter_101 : decode cX8_dialAfter 101 = .ok (.getfield 9, 3) := by decide +kernel
theorem dX8_dialAfter_104 : decode cX8_dialAfter 104 = .ok (.iconst 0, 1) := by decide +kernel
theorem dX8_dialAfter_105 : decode cX8_dialAfter 105 = .ok (.invokestatic 44, 3) := by decide +kernel
theorem dX8_dialAfter_108 : decode cX8_dialAfter 108 = .ok (.iload 4, 2) := by decide +kernel
theorem dX8_dialAfter_110 : decode cX8_dialAfter 110 = .ok (.ireturn, 1) := by decide +kernel
theorem dX8_hoursUntilFitting_0 : decode cX8_hoursUntilFitting 0 = .ok (.aload_n 0, 1) := by decide +kernel
theorem dX8_hoursUntilFitting_1 : decode cX8_hoursUntilFitting 1 = .ok (.aload_n 0, 1) := by decide +kernel
theorem dX8_hoursUntilFitting_2 : decode cX8_hoursUntilFitting 2 = .ok (.iload_n 1, 1) := by decide +kernel
theorem dX8_hoursUntilFitting_3 : decode cX8_hoursUntilFitting 3 = .ok (.invokevirtual 92, 3) := by decide +kernel
theorem dX8_hoursUntilFitting_6 : decode cX8_hoursUntilFitting 6 = .ok (.ifCond .ne 7, 3) := by decide +kernel
theorem dX8_hoursUntilFitting_9 : decode cX8_hoursUntilFitting 9 = .ok (.iconst 1, 1) := by decide +kernel
theorem dX8_hoursUntilFitting_10 : decode cX8_hoursUntilFitting 10 = .ok (.goto 4, 3) := by decide +kernel
theorem dX8_hoursUntilFitting_13 : decode cX8_hoursUntilFitting 13 = .ok (.iconst 0, 1) := by decide +kernel
theorem dX8_hoursUntilFitting_14 : decode cX8_hoursUntilFitting 14 = .ok (.iconst 1, 1) := by decide +kernel
theorem dX8_hoursUntilFitting_15 : decode cX8_hoursUntilFitting 15 = .ok (.invokevirtual 73, 3) := by decide +kernel
theorem dX8_hoursUntilFitting_18 : decode cX8_hoursUntilFitting 18 = .ok (.ifCond .eq 5, 3) := by decide +kernel
theorem dX8_hoursUntilFitting_21 : decode cX8_hoursUntilFitting 21 = .ok (.iconst 0, 1) := by decide +kernel
theorem dX8_hoursUntilFitting_22 : decode cX8_hoursUntilFitting 22 = .ok (.ireturn, 1) := by decide +kernel
theorem dX8_hoursUntilFitting_23 : decode cX8_hoursUntilFitting 23 = .ok (.aload_n 0, 1) := by decide +kernel
theorem dX8_hoursUntilFitting_24 : decode cX8_hoursUntilFitting 24 = .ok (.getfield 9, 3) := by decide +kernel
theorem dX8_hoursUntilFitting_27 : decode cX8_hoursUntilFitting 27 = .ok (.iconst 0, 1) := by decide +kernel
theorem dX8_hoursUntilFitting_28 : decode cX8_hoursUntilFitting 28 = .ok (.aload_n 0, 1) := by decide +kernel
theorem dX8_hoursUntilFitting_29 : decode cX8_hoursUntilFitting 29 = .ok (.getfield 16, 3) := by decide +kernel
theorem dX8_hoursUntilFitting_32 : decode cX8_hoursUntilFitting 32 = .ok (.iconst 0, 1) := by decide +kernel
theorem dX8_hoursUntilFitting_33 : decode cX8_hoursUntilFitting 33 = .ok (.invokestatic 44, 3) := by decide +kernel
theorem dX8_hoursUntilFitting_36 : decode cX8_hoursUntilFitting 36 = .ok (.iconst 0, 1) := by decide +kernel
theorem dX8_hoursUntilFitting_37 : decode cX8_hoursUntilFitting 37 = .ok (.istore_n 2, 1) := by decide +kernel
theorem dX8_hoursUntilFitting_38 : decode cX8_hoursUntilFitting 38 = .ok (.iload_n 2, 1) := by decide +kernel
theorem dX8_hoursUntilFitting_39 : decode cX8_hoursUntilFitting 39 = .ok (.bipush 60, 2) := by decide +kernel
theorem dX8_hoursUntilFitting_41 : decode cX8_hoursUntilFitting 41 = .ok (.if_icmp .gt 26, 3) := by decide +kernel
theorem dX8_hoursUntilFitting_44 : decode cX8_hoursUntilFitting 44 = .ok (.aload_n 0, 1) := by decide +kernel
theorem dX8_hoursUntilFitting_45 : decode cX8_hoursUntilFitting 45 = .ok (.iload_n 1, 1) := by decide +kernel
theorem dX8_hoursUntilFitting_46 : decode cX8_hoursUntilFitting 46 = .ok (.aload_n 0, 1) := by decide +kernel
theorem dX8_hoursUntilFitting_47 : decode cX8_hoursUntilFitting 47 = .ok (.iload_n 1, 1) := by decide +kernel
theorem dX8_hoursUntilFitting_48 : decode cX8_hoursUntilFitting 48 = .ok (.invokevirtual 104, 3) := by decide +kernel
theorem dX8_hoursUntilFitting_51 : decode cX8_hoursUntilFitting 51 = .ok (.invokevirtual 107, 3) := by decide +kernel
theorem dX8_hoursUntilFitting_54 : decode cX8_hoursUntilFitting 54 = .ok (.ifCond .le 13, 3) := by decide +kernel
theorem dX8_hoursUntilFitting_57 : decode cX8_hoursUntilFitting 57 = .ok (.aload_n 0, 1) := by decide +kernel
theorem dX8_hoursUntilFitting_58 : decode cX8_hoursUntilFitting 58 = .ok (.invokevirtual 153, 3) := by decide +kernel
theorem dX8_hoursUntilFitting_61 : decode cX8_hoursUntilFitting 61 = .ok (.iinc 2 1, 3) := by decide +kernel
theorem dX8_hoursUntilFitting_64 : decode cX8_hoursUntilFitting 64 = .ok (.goto (-26), 3) := by decide +kernel
theorem dX8_hoursUntilFitting_67 : decode cX8_hoursUntilFitting 67 = .ok (.aload_n 0, 1) := by decide +kernel
theorem dX8_hoursUntilFitting_68 : decode cX8_hoursUntilFitting 68 = .ok (.getfield 16, 3) := by decide +kernel
theorem dX8_hoursUntilFitting_71 : decode cX8_hoursUntilFitting 71 = .ok (.iconst 0, 1) := by decide +kernel
theorem dX8_hoursUntilFitting_72 : decode cX8_hoursUntilFitting 72 = .ok (.aload_n 0, 1) := by decide +kernel
theorem dX8_hoursUntilFitting_73 : decode cX8_hoursUntilFitting 73 = .ok (.getfield 9, 3) := by decide +kernel
theorem dX8_hoursUntilFitting_76 : decode cX8_hoursUntilFitting 76 = .ok (.iconst 0, 1) := by decide +kernel
theorem dX8_hoursUntilFitting_77 : decode cX8_hoursUntilFitting 77 = .ok (.invokestatic 44, 3) := by decide +kernel
theorem dX8_hoursUntilFitting_80 : decode cX8_hoursUntilFitting 80 = .ok (.aload_n 0, 1) := by decide +kernel
theorem dX8_hoursUntilFitting_81 : decode cX8_hoursUntilFitting 81 = .ok (.iload_n 2, 1) := by decide +kernel
theorem dX8_hoursUntilFitting_82 : decode cX8_hoursUntilFitting 82 = .ok (.bipush 60, 2) := by decide +kernel
theorem dX8_hoursUntilFitting_84 : decode cX8_hoursUntilFitting 84 = .ok (.if_icmp .le 7, 3) := by decide +kernel
theorem dX8_hoursUntilFitting_87 : decode cX8_hoursUntilFitting 87 = .ok (.iconst 1, 1) := by decide +kernel
theorem dX8_hoursUntilFitting_88 : decode cX8_hoursUntilFitting 88 = .ok (.goto 4, 3) := by decide +kernel
theorem dX8_hoursUntilFitting_91 : decode cX8_hoursUntilFitting 91 = .ok (.iconst 0, 1) := by decide +kernel
theorem dX8_hoursUntilFitting_92 : decode cX8_hoursUntilFitting 92 = .ok (.iconst 2, 1) := by decide +kernel
theorem dX8_hoursUntilFitting_93 : decode cX8_hoursUntilFitting 93 = .ok (.invokevirtual 73, 3) := by decide +kernel
theorem dX8_hoursUntilFitting_96 : decode cX8_hoursUntilFitting 96 = .ok (.ifCond .eq 7, 3) := by decide +kernel
theorem dX8_hoursUntilFitting_99 : decode cX8_hoursUntilFitting 99 = .ok (.iconst 0, 1) := by decide +kernel
theorem dX8_hoursUntilFitting_100 : decode cX8_hoursUntilFitting 100 = .ok (.goto 4, 3) := by decide +kernel
theorem dX8_hoursUntilFitting_103 : decode cX8_hoursUntilFitting 103 = .ok (.iload_n 2, 1) := by decide +kernel
theorem dX8_hoursUntilFitting_104 : decode cX8_hoursUntilFitting 104 = .ok (.ireturn, 1) := by decide +kernel
theorem dX8_bakedDoor_0 : decode cX8_bakedDoor 0 = .ok (.aload_n 0, 1) := by decide +kernel
theorem dX8_bakedDoor_1 : decode cX8_bakedDoor 1 = .ok (.iload_n 1, 1) := by decide +kernel
theorem dX8_bakedDoor_2 : decode cX8_bakedDoor 2 = .ok (.invokestatic 134, 3) := by decide +kernel
theorem dX8_bakedDoor_5 : decode cX8_bakedDoor 5 = .ok (.ifCond .ne 7, 3) := by decide +kernel
theorem dX8_bakedDoor_8 : decode cX8_bakedDoor 8 = .ok (.iconst 1, 1) := by decide +kernel
theorem dX8_bakedDoor_9 : decode cX8_bakedDoor 9 = .ok (.goto 4, 3) := by decide +kernel
theorem dX8_bakedDoor_12 : decode cX8_bakedDoor 12 = .ok (.iconst 0, 1) := by decide +kernel
theorem dX8_bakedDoor_13 : decode cX8_bakedDoor 13 = .ok (.iconst 1, 1) := by decide +kernel
theorem dX8_bakedDoor_14 : decode cX8_bakedDoor 14 = .ok (.invokevirtual 73, 3) := by decide +kernel
theorem dX8_bakedDoor_17 : decode cX8_bakedDoor 17 = .ok (.ifCond .ne 25, 3) := by decide +kernel
theorem dX8_bakedDoor_20 : decode cX8_bakedDoor 20 = .ok (.aload_n 0, 1) := by decide +kernel
theorem dX8_bakedDoor_21 : decode cX8_bakedDoor 21 = .ok (.aload_n 0, 1) := by decide +kernel
theorem dX8_bakedDoor_22 : decode cX8_bakedDoor 22 = .ok (.iload_n 1, 1) := by decide +kernel
theorem dX8_bakedDoor_23 : decode cX8_bakedDoor 23 = .ok (.iconst 0, 1) := by decide +kernel
theorem dX8_bakedDoor_24 : decode cX8_bakedDoor 24 = .ok (.invokevirtual 137, 3) := by decide +kernel
theorem dX8_bakedDoor_27 : decode cX8_bakedDoor 27 = .ok (.ifCond .ne 7, 3) := by decide +kernel
theorem dX8_bakedDoor_30 : decode cX8_bakedDoor 30 = .ok (.iconst 1, 1) := by decide +kernel
theorem dX8_bakedDoor_31 : decode cX8_bakedDoor 31 = .ok (.goto 4, 3) := by decide +kernel
theorem dX8_bakedDoor_34 : decode cX8_bakedDoor 34 = .ok (.iconst 0, 1) := by decide +kernel
theorem dX8_bakedDoor_35 : decode cX8_bakedDoor 35 = .ok (.iconst 2, 1) := by decide +kernel
theorem dX8_bakedDoor_36 : decode cX8_bakedDoor 36 = .ok (.invokevirtual 73, 3) := by decide +kernel
theorem dX8_bakedDoor_39 : decode cX8_bakedDoor 39 = .ok (.ifCond .eq 7, 3) := by decide +kernel
theorem dX8_bakedDoor_42 : decode cX8_bakedDoor 42 = .ok (.iconst 0, 1) := by decide +kernel
theorem dX8_bakedDoor_43 : decode cX8_bakedDoor 43 = .ok (.goto 11, 3) := by decide +kernel
theorem dX8_bakedDoor_46 : decode cX8_bakedDoor 46 = .ok (.aload_n 0, 1) := by decide +kernel
theorem dX8_bakedDoor_47 : decode cX8_bakedDoor 47 = .ok (.iload_n 1, 1) := by decide +kernel
theorem dX8_bakedDoor_48 : decode cX8_bakedDoor 48 = .ok (.iconst 0, 1) := by decide +kernel
theorem dX8_bakedDoor_49 : decode cX8_bakedDoor 49 = .ok (.invokevirtual 137, 3) := by decide +kernel
theorem dX8_bakedDoor_52 : decode cX8_bakedDoor 52 = .ok (.iconst 1, 1) := by decide +kernel
theorem dX8_bakedDoor_53 : decode cX8_bakedDoor 53 = .ok (.isub, 1) := by decide +kernel
theorem dX8_bakedDoor_54 : decode cX8_bakedDoor 54 = .ok (.ireturn, 1) := by decide +kernel
theorem dX8_bakingHours_0 : decode cX8_bakingHours 0 = .ok (.aload_n 0, 1) := by decide +kernel
theorem dX8_bakingHours_1 : decode cX8_bakingHours 1 = .ok (.iload_n 1, 1) := by decide +kernel
theorem dX8_bakingHours_2 : decode cX8_bakingHours 2 = .ok (.invokestatic 134, 3) := by decide +kernel
theorem dX8_bakingHours_5 : decode cX8_bakingHours 5 = .ok (.ifCond .ne 7, 3) := by decide +kernel
theorem dX8_bakingHours_8 : decode cX8_bakingHours 8 = .ok (.iconst 1, 1) := by decide +kernel
theorem dX8_bakingHours_9 : decode cX8_bakingHours 9 = .ok (.goto 4, 3) := by decide +kernel
theorem dX8_bakingHours_12 : decode cX8_bakingHours 12 = .ok (.iconst 0, 1) := by decide +kernel
theorem dX8_bakingHours_13 : decode cX8_bakingHours 13 = .ok (.iconst 1, 1) := by decide +kernel
theorem dX8_bakingHours_14 : decode cX8_bakingHours 14 = .ok (.invokevirtual 73, 3) := by decide +kernel
theorem dX8_bakingHours_17 : decode cX8_bakingHours 17 = .ok (.ifCond .eq 7, 3) := by decide +kernel
theorem dX8_bakingHours_20 : decode cX8_bakingHours 20 = .ok (.iconst 0, 1) := by decide +kernel
theorem dX8_bakingHours_21 : decode cX8_bakingHours 21 = .ok (.goto 9, 3) := by decide +kernel
theorem dX8_bakingHours_24 : decode cX8_bakingHours 24 = .ok (.aload_n 0, 1) := by decide +kernel
theorem dX8_bakingHours_25 : decode cX8_bakingHours 25 = .ok (.iload_n 1, 1) := by decide +kernel
theorem dX8_bakingHours_26 : decode cX8_bakingHours 26 = .ok (.iconst 1, 1) := by decide +kernel
theorem dX8_bakingHours_27 : decode cX8_bakingHours 27 = .ok (.invokevirtual 137, 3) := by decide +kernel
theorem dX8_bakingHours_30 : decode cX8_bakingHours 30 = .ok (.ireturn, 1) := by decide +kernel
theorem dX8_isBaking_0 : decode cX8_isBaking 0 = .ok (.aload_n 0, 1) := by decide +kernel
theorem dX8_isBaking_1 : decode cX8_isBaking 1 = .ok (.aload_n 0, 1) := by decide +kernel
theorem dX8_isBaking_2 : decode cX8_isBaking 2 = .ok (.iload_n 1, 1) := by decide +kernel
theorem dX8_isBaking_3 : decode cX8_isBaking 3 = .ok (.invokevirtual 92, 3) := by decide +kernel
theorem dX8_isBaking_6 : decode cX8_isBaking 6 = .ok (.ifCond .ne 7, 3) := by decide +kernel
theorem dX8_isBaking_9 : decode cX8_isBaking 9 = .ok (.iconst 1, 1) := by decide +kernel
theorem dX8_isBaking_10 : decode cX8_isBaking 10 = .ok (.goto 4, 3) := by decide +kernel
theorem dX8_isBaking_13 : decode cX8_isBaking 13 = .ok (.iconst 0, 1) := by decide +kernel
theorem dX8_isBaking_14 : decode cX8_isBaking 14 = .ok (.iconst 1, 1) := by decide +kernel
theorem dX8_isBaking_15 : decode cX8_isBaking 15 = .ok (.invokevirtual 73, 3) := by decide +kernel
theorem dX8_isBaking_18 : decode cX8_isBaking 18 = .ok (.ifCond .ne 15, 3) := by decide +kernel
theorem dX8_isBaking_21 : decode cX8_isBaking 21 = .ok (.aload_n 0, 1) := by decide +kernel
theorem dX8_isBaking_22 : decode cX8_isBaking 22 = .ok (.iload_n 1, 1) := by decide +kernel
theorem dX8_isBaking_23 : decode cX8_isBaking 23 = .ok (.invokevirtual 59, 3) := by decide +kernel
theorem dX8_isBaking_26 : decode cX8_isBaking 26 = .ok (.ifCond .eq 7, 3) := by decide +kernel
theorem dX8_isBaking_29 : decode cX8_isBaking 29 = .ok (.iconst 1, 1) := by decide +kernel
theorem dX8_isBaking_30 : decode cX8_isBaking 30 = .ok (.goto 4, 3) := by decide +kernel
theorem dX8_isBaking_33 : decode cX8_isBaking 33 = .ok (.iconst 0, 1) := by decide +kernel
theorem dX8_isBaking_34 : decode cX8_isBaking 34 = .ok (.ireturn, 1) := by decide +kernel
theorem dX8_isAhead_0 : decode cX8_isAhead 0 = .ok (.aload_n 0, 1) := by decide +kernel
theorem dX8_isAhead_1 : decode cX8_isAhead 1 = .ok (.iload_n 1, 1) := by decide +kernel
theorem dX8_isAhead_2 : decode cX8_isAhead 2 = .ok (.bipush 7, 2) := by decide +kernel
theorem dX8_isAhead_4 : decode cX8_isAhead 4 = .ok (.invokevirtual 55, 3) := by decide +kernel
theorem dX8_isAhead_7 : decode cX8_isAhead 7 = .ok (.aload_n 0, 1) := by decide +kernel
theorem dX8_isAhead_8 : decode cX8_isAhead 8 = .ok (.iload_n 2, 1) := by decide +kernel
theorem dX8_isAhead_9 : decode cX8_isAhead 9 = .ok (.bipush 7, 2) := by decide +kernel
theorem dX8_isAhead_11 : decode cX8_isAhead 11 = .ok (.invokevirtual 55, 3) := by decide +kernel
theorem dX8_isAhead_14 : decode cX8_isAhead 14 = .ok (.isub, 1) := by decide +kernel
theorem dX8_isAhead_15 : decode cX8_isAhead 15 = .ok (.istore_n 3, 1) := by decide +kernel
theorem dX8_isAhead_16 : decode cX8_isAhead 16 = .ok (.iload_n 3, 1) := by decide +kernel
theorem dX8_isAhead_17 : decode cX8_isAhead 17 = .ok (.ifCond .eq 13, 3) := by decide +kernel
theorem dX8_isAhead_20 : decode cX8_isAhead 20 = .ok (.iload_n 3, 1) := by decide +kernel
theorem dX8_isAhead_21 : decode cX8_isAhead 21 = .ok (.ifCond .le 7, 3) := by decide +kernel
theorem dX8_isAhead_24 : decode cX8_isAhead 24 = .ok (.iconst 1, 1) := by decide +kernel
theorem dX8_isAhead_25 : decode cX8_isAhead 25 = .ok (.goto 4, 3) := by decide +kernel
theorem dX8_isAhead_28 : decode cX8_isAhead 28 = .ok (.iconst 0, 1) := by decide +kernel
theorem dX8_isAhead_29 : decode cX8_isAhead 29 = .ok (.ireturn, 1) := by decide +kernel
theorem dX8_isAhead_30 : decode cX8_isAhead 30 = .ok (.aload_n 0, 1) := by decide +kernel
theorem dX8_isAhead_31 : decode cX8_isAhead 31 = .ok (.iload_n 2, 1) := by decide +kernel
theorem dX8_isAhead_32 : decode cX8_isAhead 32 = .ok (.invokevirtual 159, 3) := by decide +kernel
theorem dX8_isAhead_35 : decode cX8_isAhead 35 = .ok (.aload_n 0, 1) := by decide +kernel
theorem dX8_isAhead_36 : decode cX8_isAhead 36 = .ok (.iload_n 1, 1) := by decide +kernel
theorem dX8_isAhead_37 : decode cX8_isAhead 37 = .ok (.invokevirtual 159, 3) := by decide +kernel
theorem dX8_isAhead_40 : decode cX8_isAhead 40 = .ok (.isub, 1) := by decide +kernel
theorem dX8_isAhead_41 : decode cX8_isAhead 41 = .ok (.istore 4, 2) := by decide +kernel
theorem dX8_isAhead_43 : decode cX8_isAhead 43 = .ok (.iload 4, 2) := by decide +kernel
theorem dX8_isAhead_45 : decode cX8_isAhead 45 = .ok (.ifCond .eq 16, 3) := by decide +kernel
theorem dX8_isAhead_48 : decode cX8_isAhead 48 = .ok (.iload 4, 2) := by decide +kernel
theorem dX8_isAhead_50 : decode cX8_isAhead 50 = .ok (.ifCond .le 7, 3) := by decide +kernel
theorem dX8_isAhead_53 : decode cX8_isAhead 53 = .ok (.iconst 1, 1) := by decide +kernel
theorem dX8_isAhead_54 : decode cX8_isAhead 54 = .ok (.goto 17, 3) := by decide +kernel
theorem dX8_isAhead_57 : decode cX8_isAhead 57 = .ok (.iconst 0, 1) := by decide +kernel
theorem dX8_isAhead_58 : decode cX8_isAhead 58 = .ok (.goto 13, 3) := by decide +kernel
theorem dX8_isAhead_61 : decode cX8_isAhead 61 = .ok (.iload_n 1, 1) := by decide +kernel
theorem dX8_isAhead_62 : decode cX8_isAhead 62 = .ok (.iload_n 2, 1) := by decide +kernel
theorem dX8_isAhead_63 : decode cX8_isAhead 63 = .ok (.if_icmp .ge 7, 3) := by decide +kernel
theorem dX8_isAhead_66 : decode cX8_isAhead 66 = .ok (.iconst 1, 1) := by decide +kernel
theorem dX8_isAhead_67 : decode cX8_isAhead 67 = .ok (.goto 4, 3) := by decide +kernel
theorem dX8_isAhead_70 : decode cX8_isAhead 70 = .ok (.iconst 0, 1) := by decide +kernel
theorem dX8_isAhead_71 : decode cX8_isAhead 71 = .ok (.ireturn, 1) := by decide +kernel
theorem dX8_doorByCrumbs_0 : decode cX8_doorByCrumbs 0 = .ok (.iconst 0, 1) := by decide +kernel
theorem dX8_doorByCrumbs_1 : decode cX8_doorByCrumbs 1 = .ok (.istore_n 2, 1) := by decide +kernel
theorem dX8_doorByCrumbs_2 : decode cX8_doorByCrumbs 2 = .ok (.iload_n 2, 1) := by decide +kernel
theorem dX8_doorByCrumbs_3 : decode cX8_doorByCrumbs 3 = .ok (.aload_n 0, 1) := by decide +kernel
theorem dX8_doorByCrumbs_4 : decode cX8_doorByCrumbs 4 = .ok (.getfield 9, 3) := by decide +kernel
theorem dX8_doorByCrumbs_7 : decode cX8_doorByCrumbs 7 = .ok (.iconst 2, 1) := by decide +kernel
theorem dX8_doorByCrumbs_8 : decode cX8_doorByCrumbs 8 = .ok (.iaload, 1) := by decide +kernel
theorem dX8_doorByCrumbs_9 : decode cX8_doorByCrumbs 9 = .ok (.if_icmp .ge 67, 3) := by decide +kernel
theorem dX8_doorByCrumbs_12 : decode cX8_doorByCrumbs 12 = .ok (.iconst 0, 1) := by decide +kernel
theorem dX8_doorByCrumbs_13 : decode cX8_doorByCrumbs 13 = .ok (.istore_n 3, 1) := by decide +kernel
theorem dX8_doorByCrumbs_14 : decode cX8_doorByCrumbs 14 = .ok (.iconst 0, 1) := by decide +kernel
theorem dX8_doorByCrumbs_15 : decode cX8_doorByCrumbs 15 = .ok (.istore 4, 2) := by decide +kernel
theorem dX8_doorByCrumbs_17 : decode cX8_doorByCrumbs 17 = .ok (.iload 4, 2) := by decide +kernel
theorem dX8_doorByCrumbs_19 : decode cX8_doorByCrumbs 19 = .ok (.aload_n 0, 1) := by decide +kernel
theorem dX8_doorByCrumbs_20 : decode cX8_doorByCrumbs 20 = .ok (.getfield 9, 3) := by decide +kernel
theorem dX8_doorByCrumbs_23 : decode cX8_doorByCrumbs 23 = .ok (.iconst 2, 1) := by decide +kernel
theorem dX8_doorByCrumbs_24 : decode cX8_doorByCrumbs 24 = .ok (.iaload, 1) := by decide +kernel
theorem dX8_doorByCrumbs_25 : decode cX8_doorByCrumbs 25 = .ok (.if_icmp .ge 33, 3) := by decide +kernel
theorem dX8_doorByCrumbs_28 : decode cX8_doorByCrumbs 28 = .ok (.iload_n 3, 1) := by decide +kernel
theorem dX8_doorByCrumbs_29 : decode cX8_doorByCrumbs 29 = .ok (.iload 4, 2) := by decide +kernel
theorem dX8_doorByCrumbs_31 : decode cX8_doorByCrumbs 31 = .ok (.iload_n 2, 1) := by decide +kernel
theorem dX8_doorByCrumbs_32 : decode cX8_doorByCrumbs 32 = .ok (.if_icmp .eq 17, 3) := by decide +kernel
theorem dX8_doorByCrumbs_35 : decode cX8_doorByCrumbs 35 = .ok (.aload_n 0, 1) := by decide +kernel
theorem dX8_doorByCrumbs_36 : decode cX8_doorByCrumbs 36 = .ok (.iload 4, 2) := by decide +kernel
theorem dX8_doorByCrumbs_38 : decode cX8_doorByCrumbs 38 = .ok (.iload_n 2, 1) := by decide +kernel
theorem dX8_doorByCrumbs_39 : decode cX8_doorByCrumbs 39 = .ok (.invokevirtual 165, 3) := by decide +kernel
theorem dX8_doorByCrumbs_42 : decode cX8_doorByCrumbs 42 = .ok (.ifCond .eq 7, 3) := by decide +kernel
theorem dX8_doorByCrumbs_45 : decode cX8_doorByCrumbs 45 = .ok (.iconst 1, 1) := by decide +kernel
theorem dX8_doorByCrumbs_46 : decode cX8_doorByCrumbs 46 = .ok (.goto 4, 3) := by decide +kernel
theorem dX8_doorByCrumbs_49 : decode cX8_doorByCrumbs 49 = .ok (.iconst 0, 1) := by decide +kernel
theorem dX8_doorByCrumbs_50 : decode cX8_doorByCrumbs 50 = .ok (.iadd, 1) := by decide +kernel
theorem dX8_doorByCrumbs_51 : decode cX8_doorByCrumbs 51 = .ok (.istore_n 3, 1) := by decide +kernel
theorem dX8_doorByCrumbs_52 : decode cX8_doorByCrumbs 52 = .ok (.iinc 4 1, 3) := by decide +kernel
theorem dX8_doorByCrumbs_55 : decode cX8_doorByCrumbs 55 = .ok (.goto (-38), 3) := by decide +kernel
theorem dX8_doorByCrumbs_58 : decode cX8_doorByCrumbs 58 = .ok (.iload_n 3, 1) := by decide +kernel
theorem dX8_doorByCrumbs_59 : decode cX8_doorByCrumbs 59 = .ok (.iload_n 1, 1) := by decide +kernel
theorem dX8_doorByCrumbs_60 : decode cX8_doorByCrumbs 60 = .ok (.if_icmp .ne 10, 3) := by decide +kernel
theorem dX8_doorByCrumbs_63 : decode cX8_doorByCrumbs 63 = .ok (.aload_n 0, 1) := by decide +kernel
theorem dX8_doorByCrumbs_64 : decode cX8_doorByCrumbs 64 = .ok (.iconst 0, 1) := by decide +kernel
theorem dX8_doorByCrumbs_65 : decode cX8_doorByCrumbs 65 = .ok (.putfield 41, 3) := by decide +kernel
theorem dX8_doorByCrumbs_68 : decode cX8_doorByCrumbs 68 = .ok (.iload_n 2, 1) := by decide +kernel
theorem dX8_doorByCrumbs_69 : decode cX8_doorByCrumbs 69 = .ok (.ireturn, 1) := by decide +kernel
theorem dX8_doorByCrumbs_70 : decode cX8_doorByCrumbs 70 = .ok (.iinc 2 1, 3) := by decide +kernel
theorem dX8_doorByCrumbs_73 : decode cX8_doorByCrumbs 73 = .ok (.goto (-71), 3) := by decide +kernel
theorem dX8_doorByCrumbs_76 : decode cX8_doorByCrumbs 76 = .ok (.aload_n 0, 1) := by decide +kernel
theorem dX8_doorByCrumbs_77 : decode cX8_doorByCrumbs 77 = .ok (.iconst 1, 1) := by decide +kernel
theorem dX8_doorByCrumbs_78 : decode cX8_doorByCrumbs 78 = .ok (.putfield 41, 3) := by decide +kernel
theorem dX8_doorByCrumbs_81 : decode cX8_doorByCrumbs 81 = .ok (.iconst 0, 1) := by decide +kernel
theorem dX8_doorByCrumbs_82 : decode cX8_doorByCrumbs 82 = .ok (.ireturn, 1) := by decide +kernel
theorem dX8_rememberedTries_0 : decode cX8_rememberedTries 0 = .ok (.aload_n 0, 1) := by decide +kernel
theorem dX8_rememberedTries_1 : decode cX8_rememberedTries 1 = .ok (.iconst 0, 1) := by decide +kernel
theorem dX8_rememberedTries_2 : decode cX8_rememberedTries 2 = .ok (.putfield 41, 3) := by decide +kernel
theorem dX8_rememberedTries_5 : decode cX8_rememberedTries 5 = .ok (.aload_n 0, 1) := by decide +kernel
theorem dX8_rememberedTries_6 : decode cX8_rememberedTries 6 = .ok (.getfield 9, 3) := by decide +kernel
theorem dX8_rememberedTries_9 : decode cX8_rememberedTries 9 = .ok (.bipush 6, 2) := by decide +kernel
theorem dX8_rememberedTries_11 : decode cX8_rememberedTries 11 = .ok (.iaload, 1) := by decide +kernel
theorem dX8_rememberedTries_12 : decode cX8_rememberedTries 12 = .ok (.ireturn, 1) := by decide +kernel
theorem dX8_ofTry_0 : decode cX8_ofTry 0 = .ok (.aload_n 0, 1) := by decide +kernel
theorem dX8_ofTry_1 : decode cX8_ofTry 1 = .ok (.iload_n 1, 1) := by decide +kernel
theorem dX8_ofTry_2 : decode cX8_ofTry 2 = .ok (.iconst 0, 1) := by decide +kernel
theorem dX8_ofTry_3 : decode cX8_ofTry 3 = .ok (.aload_n 0, 1) := by decide +kernel
theorem dX8_ofTry_4 : decode cX8_ofTry 4 = .ok (.getfield 9, 3) := by decide +kernel
theorem dX8_ofTry_7 : decode cX8_ofTry 7 = .ok (.bipush 6, 2) := by decide +kernel
theorem dX8_ofTry_9 : decode cX8_ofTry 9 = .ok (.iaload, 1) := by decide +kernel
theorem dX8_ofTry_10 : decode cX8_ofTry 10 = .ok (.iconst 1, 1) := by decide +kernel
theorem dX8_ofTry_11 : decode cX8_ofTry 11 = .ok (.isub, 1) := by decide +kernel
theorem dX8_ofTry_12 : decode cX8_ofTry 12 = .ok (.invokestatic 51, 3) := by decide +kernel
theorem dX8_ofTry_15 : decode cX8_ofTry 15 = .ok (.ifCond .ne 7, 3) := by decide +kernel
theorem dX8_ofTry_18 : decode cX8_ofTry 18 = .ok (.iconst 1, 1) := by decide +kernel
theorem dX8_ofTry_19 : decode cX8_ofTry 19 = .ok (.goto 4, 3) := by decide +kernel
theorem dX8_ofTry_22 : decode cX8_ofTry 22 = .ok (.iconst 0, 1) := by decide +kernel
theorem dX8_ofTry_23 : decode cX8_ofTry 23 = .ok (.iconst 1, 1) := by decide +kernel
theorem dX8_ofTry_24 : decode cX8_ofTry 24 = .ok (.invokevirtual 73, 3) := by decide +kernel
theorem dX8_ofTry_27 : decode cX8_ofTry 27 = .ok (.ifCond .eq 7, 3) := by decide +kernel
theorem dX8_ofTry_30 : decode cX8_ofTry 30 = .ok (.iconst 0, 1) := by decide +kernel
theorem dX8_ofTry_31 : decode cX8_ofTry 31 = .ok (.goto 16, 3) := by decide +kernel
theorem dX8_ofTry_34 : decode cX8_ofTry 34 = .ok (.aload_n 0, 1) := by decide +kernel
theorem dX8_ofTry_35 : decode cX8_ofTry 35 = .ok (.getfield 9, 3) := by decide +kernel
theorem dX8_ofTry_38 : decode cX8_ofTry 38 = .ok (.bipush 65, 2) := by decide +kernel
theorem dX8_ofTry_40 : decode cX8_ofTry 40 = .ok (.iconst 2, 1) := by decide +kernel
theorem dX8_ofTry_41 : decode cX8_ofTry 41 = .ok (.iload_n 1, 1) := by decide +kernel
theorem dX8_ofTry_42 : decode cX8_ofTry 42 = .ok (.imul, 1) := by decide +kernel
theorem dX8_ofTry_43 : decode cX8_ofTry 43 = .ok (.iadd, 1) := by decide +kernel
theorem dX8_ofTry_44 : decode cX8_ofTry 44 = .ok (.iload_n 2, 1) := by decide +kernel
theorem dX8_ofTry_45 : decode cX8_ofTry 45 = .ok (.iadd, 1) := by decide +kernel
theorem dX8_ofTry_46 : decode cX8_ofTry 46 = .ok (.iaload, 1) := by decide +kernel
theorem dX8_ofTry_47 : decode cX8_ofTry 47 = .ok (.ireturn, 1) := by decide +kernel
theorem dX8_triedDoor_0 : decode cX8_triedDoor 0 = .ok (.aload_n 0, 1) := by decide +kernel
theorem dX8_triedDoor_1 : decode cX8_triedDoor 1 = .ok (.iload_n 1, 1) := by decide +kernel
theorem dX8_triedDoor_2 : decode cX8_triedDoor 2 = .ok (.iconst 0, 1) := by decide +kernel
theorem dX8_triedDoor_3 : decode cX8_triedDoor 3 = .ok (.invokevirtual 169, 3) := by decide +kernel
theorem dX8_triedDoor_6 : decode cX8_triedDoor 6 = .ok (.ireturn, 1) := by decide +kernel
theorem dX8_didOpen_0 : decode cX8_didOpen 0 = .ok (.aload_n 0, 1) := by decide +kernel
theorem dX8_didOpen_1 : decode cX8_didOpen 1 = .ok (.iload_n 1, 1) := by decide +kernel
theorem dX8_didOpen_2 : decode cX8_didOpen 2 = .ok (.iconst 1, 1) := by decide +kernel
theorem dX8_didOpen_3 : decode cX8_didOpen 3 = .ok (.invokevirtual 169, 3) := by decide +kernel
theorem dX8_didOpen_6 : decode cX8_didOpen 6 = .ok (.iconst 1, 1) := by decide +kernel
theorem dX8_didOpen_7 : decode cX8_didOpen 7 = .ok (.if_icmp .ne 7, 3) := by decide +kernel
theorem dX8_didOpen_10 : decode cX8_didOpen 10 = .ok (.iconst 1, 1) := by decide +kernel
theorem dX8_didOpen_11 : decode cX8_didOpen 11 = .ok (.goto 4, 3) := by decide +kernel
theorem dX8_didOpen_14 : decode cX8_didOpen 14 = .ok (.iconst 0, 1) := by decide +kernel
theorem dX8_didOpen_15 : decode cX8_didOpen 15 = .ok (.ireturn, 1) := by decide +kernel
theorem dX8_shutLocks_0 : decode cX8_shutLocks 0 = .ok (.aload_n 0, 1) := by decide +kernel
theorem dX8_shutLocks_1 : decode cX8_shutLocks 1 = .ok (.iconst 0, 1) := by decide +kernel
theorem dX8_shutLocks_2 : decode cX8_shutLocks 2 = .ok (.putfield 41, 3) := by decide +kernel
theorem dX8_shutLocks_5 : decode cX8_shutLocks 5 = .ok (.aload_n 0, 1) := by decide +kernel
theorem dX8_shutLocks_6 : decode cX8_shutLocks 6 = .ok (.invokevirtual 120, 3) := by decide +kernel
theorem dX8_shutLocks_9 : decode cX8_shutLocks 9 = .ok (.ireturn, 1) := by decide +kernel
theorem dX8_shutLocksByAccounts_0 : decode cX8_shutLocksByAccounts 0 = .ok (.aload_n 0, 1) := by decide +kernel
theorem dX8_shutLocksByAccounts_1 : decode cX8_shutLocksByAccounts 1 = .ok (.invokevirtual 172, 3) := by decide +kernel
theorem dX8_shutLocksByAccounts_4 : decode cX8_shutLocksByAccounts 4 = .ok (.ireturn, 1) := by decide +kernel
theorem dX8_damp_0 : decode cX8_damp 0 = .ok (.aload_n 0, 1) := by decide +kernel
theorem dX8_damp_1 : decode cX8_damp 1 = .ok (.iconst 0, 1) := by decide +kernel
theorem dX8_damp_2 : decode cX8_damp 2 = .ok (.putfield 41, 3) := by decide +kernel
theorem dX8_damp_5 : decode cX8_damp 5 = .ok (.aload_n 0, 1) := by decide +kernel
theorem dX8_damp_6 : decode cX8_damp 6 = .ok (.getfield 9, 3) := by decide +kernel
theorem dX8_damp_9 : decode cX8_damp 9 = .ok (.iconst 1, 1) := by decide +kernel
theorem dX8_damp_10 : decode cX8_damp 10 = .ok (.iaload, 1) := by decide +kernel
theorem dX8_damp_11 : decode cX8_damp 11 = .ok (.ireturn, 1) := by decide +kernel
theorem dX8_hour_0 : decode cX8_hour 0 = .ok (.aload_n 0, 1) := by decide +kernel
theorem dX8_hour_1 : decode cX8_hour 1 = .ok (.iconst 0, 1) := by decide +kernel
theorem dX8_hour_2 : decode cX8_hour 2 = .ok (.putfield 41, 3) := by decide +kernel
theorem dX8_hour_5 : decode cX8_hour 5 = .ok (.aload_n 0, 1) := by decide +kernel
theorem dX8_hour_6 : decode cX8_hour 6 = .ok (.getfield 9, 3) := by decide +kernel
theorem dX8_hour_9 : decode cX8_hour 9 = .ok (.iconst 0, 1) := by decide +kernel
theorem dX8_hour_10 : decode cX8_hour 10 = .ok (.iaload, 1) := by decide +kernel
theorem dX8_hour_11 : decode cX8_hour 11 = .ok (.ireturn, 1) := by decide +kernel
theorem dX8_tryTotal_0 : decode cX8_tryTotal 0 = .ok (.aload_n 0, 1) := by decide +kernel
theorem dX8_tryTotal_1 : decode cX8_tryTotal 1 = .ok (.iconst 0, 1) := by decide +kernel
theorem dX8_tryTotal_2 : decode cX8_tryTotal 2 = .ok (.putfield 41, 3) := by decide +kernel
theorem dX8_tryTotal_5 : decode cX8_tryTotal 5 = .ok (.aload_n 0, 1) := by decide +kernel
theorem dX8_tryTotal_6 : decode cX8_tryTotal 6 = .ok (.getfield 9, 3) := by decide +kernel
theorem dX8_tryTotal_9 : decode cX8_tryTotal 9 = .ok (.iconst 3, 1) := by decide +kernel
theorem dX8_tryTotal_10 : decode cX8_tryTotal 10 = .ok (.iaload, 1) := by decide +kernel
theorem dX8_tryTotal_11 : decode cX8_tryTotal 11 = .ok (.ireturn, 1) := by decide +kernel
theorem dX8_openedTotal_0 : decode cX8_openedTotal 0 = .ok (.aload_n 0, 1) := by decide +kernel
theorem dX8_openedTotal_1 : decode cX8_openedTotal 1 = .ok (.iconst 0, 1) := by decide +kernel
theorem dX8_openedTotal_2 : decode cX8_openedTotal 2 = .ok (.putfield 41, 3) := by decide +kernel
theorem dX8_openedTotal_5 : decode cX8_openedTotal 5 = .ok (.aload_n 0, 1) := by decide +kernel
theorem dX8_openedTotal_6 : decode cX8_openedTotal 6 = .ok (.getfield 9, 3) := by decide +kernel
theorem dX8_openedTotal_9 : decode cX8_openedTotal 9 = .ok (.iconst 4, 1) := by decide +kernel
theorem dX8_openedTotal_10 : decode cX8_openedTotal 10 = .ok (.iaload, 1) := by decide +kernel
theorem dX8_openedTotal_11 : decode cX8_openedTotal 11 = .ok (.ireturn, 1) := by decide +kernel
theorem dX8_bakedTotal_0 : decode cX8_bakedTotal 0 = .ok (.aload_n 0, 1) := by decide +kernel
theorem dX8_bakedTotal_1 : decode cX8_bakedTotal 1 = .ok (.iconst 0, 1) := by decide +kernel
theorem dX8_bakedTotal_2 : decode cX8_bakedTotal 2 = .ok (.putfield 41, 3) := by decide +kernel
theorem dX8_bakedTotal_5 : decode cX8_bakedTotal 5 = .ok (.aload_n 0, 1) := by decide +kernel
theorem dX8_bakedTotal_6 : decode cX8_bakedTotal 6 = .ok (.getfield 9, 3) := by decide +kernel
theorem dX8_bakedTotal_9 : decode cX8_bakedTotal 9 = .ok (.iconst 5, 1) := by decide +kernel
theorem dX8_bakedTotal_10 : decode cX8_bakedTotal 10 = .ok (.iaload, 1) := by decide +kernel
theorem dX8_bakedTotal_11 : decode cX8_bakedTotal 11 = .ok (.ireturn, 1) := by decide +kernel
theorem dX8_meanCrumbs_0 : decode cX8_meanCrumbs 0 = .ok (.iconst 0, 1) := by decide +kernel
theorem dX8_meanCrumbs_1 : decode cX8_meanCrumbs 1 = .ok (.istore_n 1, 1) := by decide +kernel
theorem dX8_meanCrumbs_2 : decode cX8_meanCrumbs 2 = .ok (.iconst 0, 1) := by decide +kernel
theorem dX8_meanCrumbs_3 : decode cX8_meanCrumbs 3 = .ok (.istore_n 2, 1) := by decide +kernel
theorem dX8_meanCrumbs_4 : decode cX8_meanCrumbs 4 = .ok (.iload_n 2, 1) := by decide +kernel
theorem dX8_meanCrumbs_5 : decode cX8_meanCrumbs 5 = .ok (.aload_n 0, 1) := by decide +kernel
theorem dX8_meanCrumbs_6 : decode cX8_meanCrumbs 6 = .ok (.getfield 9, 3) := by decide +kernel
theorem dX8_meanCrumbs_9 : decode cX8_meanCrumbs 9 = .ok (.iconst 2, 1) := by decide +kernel
theorem dX8_meanCrumbs_10 : decode cX8_meanCrumbs 10 = .ok (.iaload, 1) := by decide +kernel
theorem dX8_meanCrumbs_11 : decode cX8_meanCrumbs 11 = .ok (.if_icmp .ge 19, 3) := by decide +kernel
theorem dX8_meanCrumbs_14 : decode cX8_meanCrumbs 14 = .ok (.iload_n 1, 1) := by decide +kernel
theorem dX8_meanCrumbs_15 : decode cX8_meanCrumbs 15 = .ok (.aload_n 0, 1) := by decide +kernel
theorem dX8_meanCrumbs_16 : decode cX8_meanCrumbs 16 = .ok (.iload_n 2, 1) := by decide +kernel
theorem dX8_meanCrumbs_17 : decode cX8_meanCrumbs 17 = .ok (.bipush 7, 2) := by decide +kernel
theorem dX8_meanCrumbs_19 : decode cX8_meanCrumbs 19 = .ok (.invokevirtual 55, 3) := by decide +kernel
theorem dX8_meanCrumbs_22 : decode cX8_meanCrumbs 22 = .ok (.iadd, 1) := by decide +kernel
theorem dX8_meanCrumbs_23 : decode cX8_meanCrumbs 23 = .ok (.istore_n 1, 1) := by decide +kernel
theorem dX8_meanCrumbs_24 : decode cX8_meanCrumbs 24 = .ok (.iinc 2 1, 3) := by decide +kernel
theorem dX8_meanCrumbs_27 : decode cX8_meanCrumbs 27 = .ok (.goto (-23), 3) := by decide +kernel
theorem dX8_meanCrumbs_30 : decode cX8_meanCrumbs 30 = .ok (.aload_n 0, 1) := by decide +kernel
theorem dX8_meanCrumbs_31 : decode cX8_meanCrumbs 31 = .ok (.aload_n 0, 1) := by decide +kernel
theorem dX8_meanCrumbs_32 : decode cX8_meanCrumbs 32 = .ok (.getfield 9, 3) := by decide +kernel
theorem dX8_meanCrumbs_35 : decode cX8_meanCrumbs 35 = .ok (.iconst 2, 1) := by decide +kernel
theorem dX8_meanCrumbs_36 : decode cX8_meanCrumbs 36 = .ok (.iaload, 1) := by decide +kernel
theorem dX8_meanCrumbs_37 : decode cX8_meanCrumbs 37 = .ok (.ifCond .ne 7, 3) := by decide +kernel
theorem dX8_meanCrumbs_40 : decode cX8_meanCrumbs 40 = .ok (.iconst 1, 1) := by decide +kernel
theorem dX8_meanCrumbs_41 : decode cX8_meanCrumbs 41 = .ok (.goto 4, 3) := by decide +kernel
theorem dX8_meanCrumbs_44 : decode cX8_meanCrumbs 44 = .ok (.iconst 0, 1) := by decide +kernel
theorem dX8_meanCrumbs_45 : decode cX8_meanCrumbs 45 = .ok (.iconst 1, 1) := by decide +kernel
theorem dX8_meanCrumbs_46 : decode cX8_meanCrumbs 46 = .ok (.invokevirtual 73, 3) := by decide +kernel
theorem dX8_meanCrumbs_49 : decode cX8_meanCrumbs 49 = .ok (.ifCond .eq 7, 3) := by decide +kernel
theorem dX8_meanCrumbs_52 : decode cX8_meanCrumbs 52 = .ok (.dconst 0, 1) := by decide +kernel
theorem dX8_meanCrumbs_53 : decode cX8_meanCrumbs 53 = .ok (.goto 13, 3) := by decide +kernel
theorem dX8_meanCrumbs_56 : decode cX8_meanCrumbs 56 = .ok (.iload_n 1, 1) := by decide +kernel
theorem dX8_meanCrumbs_57 : decode cX8_meanCrumbs 57 = .ok (.i2d, 1) := by decide +kernel
theorem dX8_meanCrumbs_58 : decode cX8_meanCrumbs 58 = .ok (.aload_n 0, 1) := by decide +kernel
theorem dX8_meanCrumbs_59 : decode cX8_meanCrumbs 59 = .ok (.getfield 9, 3) := by decide +kernel
theorem dX8_meanCrumbs_62 : decode cX8_meanCrumbs 62 = .ok (.iconst 2, 1) := by decide +kernel
theorem dX8_meanCrumbs_63 : decode cX8_meanCrumbs 63 = .ok (.iaload, 1) := by decide +kernel
theorem dX8_meanCrumbs_64 : decode cX8_meanCrumbs 64 = .ok (.i2d, 1) := by decide +kernel
theorem dX8_meanCrumbs_65 : decode cX8_meanCrumbs 65 = .ok (.ddiv, 1) := by decide +kernel
theorem dX8_meanCrumbs_66 : decode cX8_meanCrumbs 66 = .ok (.dreturn, 1) := by decide +kernel
theorem dX8_openedShare_0 : decode cX8_openedShare 0 = .ok (.aload_n 0, 1) := by decide +kernel
theorem dX8_openedShare_1 : decode cX8_openedShare 1 = .ok (.aload_n 0, 1) := by decide +kernel
theorem dX8_openedShare_2 : decode cX8_openedShare 2 = .ok (.getfield 9, 3) := by decide +kernel
theorem dX8_openedShare_5 : decode cX8_openedShare 5 = .ok (.iconst 3, 1) := by decide +kernel
theorem dX8_openedShare_6 : decode cX8_openedShare 6 = .ok (.iaload, 1) := by decide +kernel
theorem dX8_openedShare_7 : decode cX8_openedShare 7 = .ok (.ifCond .ne 7, 3) := by decide +kernel
theorem dX8_openedShare_10 : decode cX8_openedShare 10 = .ok (.iconst 1, 1) := by decide +kernel
theorem dX8_openedShare_11 : decode cX8_openedShare 11 = .ok (.goto 4, 3) := by decide +kernel
theorem dX8_openedShare_14 : decode cX8_openedShare 14 = .ok (.iconst 0, 1) := by decide +kernel
theorem dX8_openedShare_15 : decode cX8_openedShare 15 = .ok (.iconst 1, 1) := by decide +kernel
theorem dX8_openedShare_16 : decode cX8_openedShare 16 = .ok (.invokevirtual 73, 3) := by decide +kernel
theorem dX8_openedShare_19 : decode cX8_openedShare 19 = .ok (.ifCond .eq 7, 3) := by decide +kernel
theorem dX8_openedShare_22 : decode cX8_openedShare 22 = .ok (.fconst 0, 1) := by decide +kernel
theorem dX8_openedShare_23 : decode cX8_openedShare 23 = .ok (.goto 18, 3) := by decide +kernel
theorem dX8_openedShare_26 : decode cX8_openedShare 26 = .ok (.aload_n 0, 1) := by decide +kernel
theorem dX8_openedShare_27 : decode cX8_openedShare 27 = .ok (.getfield 9, 3) := by decide +kernel
theorem dX8_openedShare_30 : decode cX8_openedShare 30 = .ok (.iconst 4, 1) := by decide +kernel
theorem dX8_openedShare_31 : decode cX8_openedShare 31 = .ok (.iaload, 1) := by decide +kernel
theorem dX8_openedShare_32 : decode cX8_openedShare 32 = .ok (.i2f, 1) := by decide +kernel
theorem dX8_openedShare_33 : decode cX8_openedShare 33 = .ok (.aload_n 0, 1) := by decide +kernel
theorem dX8_openedShare_34 : decode cX8_openedShare 34 = .ok (.getfield 9, 3) := by decide +kernel
theorem dX8_openedShare_37 : decode cX8_openedShare 37 = .ok (.iconst 3, 1) := by decide +kernel
theorem dX8_openedShare_38 : decode cX8_openedShare 38 = .ok (.iaload, 1) := by decide +kernel
theorem dX8_openedShare_39 : decode cX8_openedShare 39 = .ok (.i2f, 1) := by decide +kernel
theorem dX8_openedShare_40 : decode cX8_openedShare 40 = .ok (.fdiv, 1) := by decide +kernel
theorem dX8_openedShare_41 : decode cX8_openedShare 41 = .ok (.freturn, 1) := by decide +kernel
theorem dX8_isConsistent_0 : decode cX8_isConsistent 0 = .ok (.aload_n 0, 1) := by decide +kernel
theorem dX8_isConsistent_1 : decode cX8_isConsistent 1 = .ok (.iconst 0, 1) := by decide +kernel
theorem dX8_isConsistent_2 : decode cX8_isConsistent 2 = .ok (.putfield 41, 3) := by decide +kernel
theorem dX8_isConsistent_5 : decode cX8_isConsistent 5 = .ok (.iconst 1, 1) := by decide +kernel
theorem dX8_isConsistent_6 : decode cX8_isConsistent 6 = .ok (.istore_n 1, 1) := by decide +kernel
theorem dX8_isConsistent_7 : decode cX8_isConsistent 7 = .ok (.iconst 0, 1) := by decide +kernel
theorem dX8_isConsistent_8 : decode cX8_isConsistent 8 = .ok (.istore_n 2, 1) := by decide +kernel
theorem dX8_isConsistent_9 : decode cX8_isConsistent 9 = .ok (.iload_n 2, 1) := by decide +kernel
theorem dX8_isConsistent_10 : decode cX8_isConsistent 10 = .ok (.aload_n 0, 1) := by decide +kernel
theorem dX8_isConsistent_11 : decode cX8_isConsistent 11 = .ok (.getfield 9, 3) := by decide +kernel
theorem dX8_isConsistent_14 : decode cX8_isConsistent 14 = .ok (.iconst 2, 1) := by decide +kernel
theorem dX8_isConsistent_15 : decode cX8_isConsistent 15 = .ok (.iaload, 1) := by decide +kernel
theorem dX8_isConsistent_16 : decode cX8_isConsistent 16 = .ok (.if_icmp .ge 37, 3) := by decide +kernel
theorem dX8_isConsistent_19 : decode cX8_isConsistent 19 = .ok (.iload_n 1, 1) := by decide +kernel
theorem dX8_isConsistent_20 : decode cX8_isConsistent 20 = .ok (.aload_n 0, 1) := by decide +kernel
theorem dX8_isConsistent_21 : decode cX8_isConsistent 21 = .ok (.iload_n 2, 1) := by decide +kernel
theorem dX8_isConsistent_22 : decode cX8_isConsistent 22 = .ok (.bipush 7, 2) := by decide +kernel
theorem dX8_isConsistent_24 : decode cX8_isConsistent 24 = .ok (.invokevirtual 55, 3) := by decide +kernel
theorem dX8_isConsistent_27 : decode cX8_isConsistent 27 = .ok (.bipush 20, 2) := by decide +kernel
theorem dX8_isConsistent_29 : decode cX8_isConsistent 29 = .ok (.if_icmp .lt 11, 3) := by decide +kernel
theorem dX8_isConsistent_32 : decode cX8_isConsistent 32 = .ok (.aload_n 0, 1) := by decide +kernel
theorem dX8_isConsistent_33 : decode cX8_isConsistent 33 = .ok (.iload_n 2, 1) := by decide +kernel
theorem dX8_isConsistent_34 : decode cX8_isConsistent 34 = .ok (.invokevirtual 101, 3) := by decide +kernel
theorem dX8_isConsistent_37 : decode cX8_isConsistent 37 = .ok (.ifCond .eq 7, 3) := by decide +kernel
theorem dX8_isConsistent_40 : decode cX8_isConsistent 40 = .ok (.iconst 1, 1) := by decide +kernel
theorem dX8_isConsistent_41 : decode cX8_isConsistent 41 = .ok (.goto 4, 3) := by decide +kernel
theorem dX8_isConsistent_44 : decode cX8_isConsistent 44 = .ok (.iconst 0, 1) := by decide +kernel
theorem dX8_isConsistent_45 : decode cX8_isConsistent 45 = .ok (.iand, 1) := by decide +kernel
theorem dX8_isConsistent_46 : decode cX8_isConsistent 46 = .ok (.istore_n 1, 1) := by decide +kernel
theorem dX8_isConsistent_47 : decode cX8_isConsistent 47 = .ok (.iinc 2 1, 3) := by decide +kernel
theorem dX8_isConsistent_50 : decode cX8_isConsistent 50 = .ok (.goto (-41), 3) := by decide +kernel
theorem dX8_isConsistent_53 : decode cX8_isConsistent 53 = .ok (.iload_n 1, 1) := by decide +kernel
theorem dX8_isConsistent_54 : decode cX8_isConsistent 54 = .ok (.ireturn, 1) := by decide +kernel
theorem dX8_puts_0 : decode cX8_puts 0 = .ok (.aload_n 0, 1) := by decide +kernel
theorem dX8_puts_1 : decode cX8_puts 1 = .ok (.getfield 32, 3) := by decide +kernel
theorem dX8_puts_4 : decode cX8_puts 4 = .ok (.aload_n 0, 1) := by decide +kernel
theorem dX8_puts_5 : decode cX8_puts 5 = .ok (.getfield 175, 3) := by decide +kernel
theorem dX8_puts_8 : decode cX8_puts 8 = .ok (.iload_n 1, 1) := by decide +kernel
theorem dX8_puts_9 : decode cX8_puts 9 = .ok (.iastore, 1) := by decide +kernel
theorem dX8_puts_10 : decode cX8_puts 10 = .ok (.aload_n 0, 1) := by decide +kernel
theorem dX8_puts_11 : decode cX8_puts 11 = .ok (.dup, 1) := by decide +kernel
theorem dX8_puts_12 : decode cX8_puts 12 = .ok (.getfield 175, 3) := by decide +kernel
theorem dX8_puts_15 : decode cX8_puts 15 = .ok (.iconst 1, 1) := by decide +kernel
theorem dX8_puts_16 : decode cX8_puts 16 = .ok (.iadd, 1) := by decide +kernel
theorem dX8_puts_17 : decode cX8_puts 17 = .ok (.putfield 175, 3) := by decide +kernel
theorem dX8_puts_20 : decode cX8_puts 20 = .ok (.return_, 1) := by decide +kernel
theorem dX8_number_0 : decode cX8_number 0 = .ok (.iload_n 1, 1) := by decide +kernel
theorem dX8_number_1 : decode cX8_number 1 = .ok (.bipush 10, 2) := by decide +kernel
theorem dX8_number_3 : decode cX8_number 3 = .ok (.if_icmp .lt 11, 3) := by decide +kernel
theorem dX8_number_6 : decode cX8_number 6 = .ok (.aload_n 0, 1) := by decide +kernel
theorem dX8_number_7 : decode cX8_number 7 = .ok (.iload_n 1, 1) := by decide +kernel
theorem dX8_number_8 : decode cX8_number 8 = .ok (.bipush 10, 2) := by decide +kernel
theorem dX8_number_10 : decode cX8_number 10 = .ok (.idiv, 1) := by decide +kernel
theorem dX8_number_11 : decode cX8_number 11 = .ok (.invokevirtual 178, 3) := by decide +kernel
theorem dX8_number_14 : decode cX8_number 14 = .ok (.aload_n 0, 1) := by decide +kernel
theorem dX8_number_15 : decode cX8_number 15 = .ok (.bipush 48, 2) := by decide +kernel
theorem dX8_number_17 : decode cX8_number 17 = .ok (.iload_n 1, 1) := by decide +kernel
theorem dX8_number_18 : decode cX8_number 18 = .ok (.bipush 10, 2) := by decide +kernel
theorem dX8_number_20 : decode cX8_number 20 = .ok (.irem, 1) := by decide +kernel
theorem dX8_number_21 : decode cX8_number 21 = .ok (.iadd, 1) := by decide +kernel
theorem dX8_number_22 : decode cX8_number 22 = .ok (.invokevirtual 181, 3) := by decide +kernel
theorem dX8_number_25 : decode cX8_number 25 = .ok (.return_, 1) := by decide +kernel
theorem dX8_renderLock_0 : decode cX8_renderLock 0 = .ok (.aload_n 0, 1) := by decide +kernel
theorem dX8_renderLock_1 : decode cX8_renderLock 1 = .ok (.aload_n 0, 1) := by decide +kernel
theorem dX8_renderLock_2 : decode cX8_renderLock 2 = .ok (.iload_n 1, 1) := by decide +kernel
theorem dX8_renderLock_3 : decode cX8_renderLock 3 = .ok (.invokevirtual 92, 3) := by decide +kernel
theorem dX8_renderLock_6 : decode cX8_renderLock 6 = .ok (.ifCond .ne 7, 3) := by decide +kernel
theorem dX8_renderLock_9 : decode cX8_renderLock 9 = .ok (.iconst 1, 1) := by decide +kernel
theorem dX8_renderLock_10 : decode cX8_renderLock 10 = .ok (.goto 4, 3) := by decide +kernel
theorem dX8_renderLock_13 : decode cX8_renderLock 13 = .ok (.iconst 0, 1) := by decide +kernel
theorem dX8_renderLock_14 : decode cX8_renderLock 14 = .ok (.iconst 1, 1) := by decide +kernel
theorem dX8_renderLock_15 : decode cX8_renderLock 15 = .ok (.invokevirtual 73, 3) := by decide +kernel
theorem dX8_renderLock_18 : decode cX8_renderLock 18 = .ok (.ifCond .eq 5, 3) := by decide +kernel
theorem dX8_renderLock_21 : decode cX8_renderLock 21 = .ok (.iconst 0, 1) := by decide +kernel
theorem dX8_renderLock_22 : decode cX8_renderLock 22 = .ok (.ireturn, 1) := by decide +kernel
theorem dX8_renderLock_23 : decode cX8_renderLock 23 = .ok (.aload_n 0, 1) := by decide +kernel
theorem dX8_renderLock_24 : decode cX8_renderLock 24 = .ok (.iconst 0, 1) := by decide +kernel
theorem dX8_renderLock_25 : decode cX8_renderLock 25 = .ok (.putfield 175, 3) := by decide +kernel
theorem dX8_renderLock_28 : decode cX8_renderLock 28 = .ok (.iconst 0, 1) := by decide +kernel
theorem dX8_renderLock_29 : decode cX8_renderLock 29 = .ok (.istore_n 2, 1) := by decide +kernel
theorem dX8_renderLock_30 : decode cX8_renderLock 30 = .ok (.iload_n 2, 1) := by decide +kernel
theorem dX8_renderLock_31 : decode cX8_renderLock 31 = .ok (.iconst 3, 1) := by decide +kernel
theorem dX8_renderLock_32 : decode cX8_renderLock 32 = .ok (.if_icmp .ge 21, 3) := by decide +kernel
theorem dX8_renderLock_35 : decode cX8_renderLock 35 = .ok (.aload_n 0, 1) := by decide +kernel
theorem dX8_renderLock_36 : decode cX8_renderLock 36 = .ok (.aload_n 0, 1) := by decide +kernel
theorem dX8_renderLock_37 : decode cX8_renderLock 37 = .ok (.iload_n 1, 1) := by decide +kernel
theorem dX8_renderLock_38 : decode cX8_renderLock 38 = .ok (.iconst 0, 1) := by decide +kernel
theorem dX8_renderLock_39 : decode cX8_renderLock 39 = .ok (.iload_n 2, 1) := by decide +kernel
theorem dX8_renderLock_40 : decode cX8_renderLock 40 = .ok (.iadd, 1) := by decide +kernel
theorem dX8_renderLock_41 : decode cX8_renderLock 41 = .ok (.invokevirtual 55, 3) := by decide +kernel
theorem dX8_renderLock_44 : decode cX8_renderLock 44 = .ok (.invokevirtual 178, 3) := by decide +kernel
theorem dX8_renderLock_47 : decode cX8_renderLock 47 = .ok (.iinc 2 1, 3) := by decide +kernel
theorem dX8_renderLock_50 : decode cX8_renderLock 50 = .ok (.goto (-20), 3) := by decide +kernel
theorem dX8_renderLock_53 : decode cX8_renderLock 53 = .ok (.aload_n 0, 1) := by decide +kernel
theorem dX8_renderLock_54 : decode cX8_renderLock 54 = .ok (.bipush 47, 2) := by decide +kernel
theorem dX8_renderLock_56 : decode cX8_renderLock 56 = .ok (.invokevirtual 181, 3) := by decide +kernel
theorem dX8_renderLock_59 : decode cX8_renderLock 59 = .ok (.iconst 0, 1) := by decide +kernel
theorem dX8_renderLock_60 : decode cX8_renderLock 60 = .ok (.istore_n 2, 1) := by decide +kernel
theorem dX8_renderLock_61 : decode cX8_renderLock 61 = .ok (.iload_n 2, 1) := by decide +kernel
theorem dX8_renderLock_62 : decode cX8_renderLock 62 = .ok (.iconst 3, 1) := by decide +kernel
theorem dX8_renderLock_63 : decode cX8_renderLock 63 = .ok (.if_icmp .ge 21, 3) := by decide +kernel
theorem dX8_renderLock_66 : decode cX8_renderLock 66 = .ok (.aload_n 0, 1) := by decide +kernel
theorem dX8_renderLock_67 : decode cX8_renderLock 67 = .ok (.aload_n 0, 1) := by decide +kernel
theorem dX8_renderLock_68 : decode cX8_renderLock 68 = .ok (.iload_n 1, 1) := by decide +kernel
theorem dX8_renderLock_69 : decode cX8_renderLock 69 = .ok (.iconst 3, 1) := by decide +kernel
theorem dX8_renderLock_70 : decode cX8_renderLock 70 = .ok (.iload_n 2, 1) := by decide +kernel
theorem dX8_renderLock_71 : decode cX8_renderLock 71 = .ok (.iadd, 1) := by decide +kernel
theorem dX8_renderLock_72 : decode cX8_renderLock 72 = .ok (.invokevirtual 55, 3) := by decide +kernel
theorem dX8_renderLock_75 : decode cX8_renderLock 75 = .ok (.invokevirtual 178, 3) := by decide +kernel
theorem dX8_renderLock_78 : decode cX8_renderLock 78 = .ok (.iinc 2 1, 3) := by decide +kernel
theorem dX8_renderLock_81 : decode cX8_renderLock 81 = .ok (.goto (-20), 3) := by decide +kernel
theorem dX8_renderLock_84 : decode cX8_renderLock 84 = .ok (.aload_n 0, 1) := by decide +kernel
theorem dX8_renderLock_85 : decode cX8_renderLock 85 = .ok (.bipush 99, 2) := by decide +kernel
theorem dX8_renderLock_87 : decode cX8_renderLock 87 = .ok (.invokevirtual 181, 3) := by decide +kernel
theorem dX8_renderLock_90 : decode cX8_renderLock 90 = .ok (.aload_n 0, 1) := by decide +kernel
theorem dX8_renderLock_91 : decode cX8_renderLock 91 = .ok (.aload_n 0, 1) := by decide +kernel
theorem dX8_renderLock_92 : decode cX8_renderLock 92 = .ok (.iload_n 1, 1) := by decide +kernel
theorem dX8_renderLock_93 : decode cX8_renderLock 93 = .ok (.bipush 7, 2) := by decide +kernel
theorem dX8_renderLock_95 : decode cX8_renderLock 95 = .ok (.invokevirtual 55, 3) := by decide +kernel
theorem dX8_renderLock_98 : decode cX8_renderLock 98 = .ok (.invokevirtual 178, 3) := by decide +kernel
theorem dX8_renderLock_101 : decode cX8_renderLock 101 = .ok (.aload_n 0, 1) := by decide +kernel
theorem dX8_renderLock_102 : decode cX8_renderLock 102 = .ok (.aload_n 0, 1) := by decide +kernel
theorem dX8_renderLock_103 : decode cX8_renderLock 103 = .ok (.iload_n 1, 1) := by decide +kernel
theorem dX8_renderLock_104 : decode cX8_renderLock 104 = .ok (.invokevirtual 59, 3) := by decide +kernel
theorem dX8_renderLock_107 : decode cX8_renderLock 107 = .ok (.ifCond .eq 8, 3) := by decide +kernel
theorem dX8_renderLock_110 : decode cX8_renderLock 110 = .ok (.bipush 98, 2) := by decide +kernel
theorem dX8_renderLock_112 : decode cX8_renderLock 112 = .ok (.goto 18, 3) := by decide +kernel
theorem dX8_renderLock_115 : decode cX8_renderLock 115 = .ok (.aload_n 0, 1) := by decide +kernel
theorem dX8_renderLock_116 : decode cX8_renderLock 116 = .ok (.iload_n 1, 1) := by decide +kernel
theorem dX8_renderLock_117 : decode cX8_renderLock 117 = .ok (.invokevirtual 101, 3) := by decide +kernel
theorem dX8_renderLock_120 : decode cX8_renderLock 120 = .ok (.ifCond .eq 8, 3) := by decide +kernel
theorem dX8_renderLock_123 : decode cX8_renderLock 123 = .ok (.bipush 111, 2) := by decide +kernel
theorem dX8_renderLock_125 : decode cX8_renderLock 125 = .ok (.goto 5, 3) := by decide +kernel
theorem dX8_renderLock_128 : decode cX8_renderLock 128 = .ok (.bipush 115, 2) := by decide +kernel
theorem dX8_renderLock_130 : decode cX8_renderLock 130 = .ok (.invokevirtual 181, 3) := by decide +kernel
theorem dX8_renderLock_133 : decode cX8_renderLock 133 = .ok (.aload_n 0, 1) := by decide +kernel
theorem dX8_renderLock_134 : decode cX8_renderLock 134 = .ok (.getfield 175, 3) := by decide +kernel
theorem dX8_renderLock_137 : decode cX8_renderLock 137 = .ok (.ireturn, 1) := by decide +kernel
theorem dX8_renderOvens_0 : decode cX8_renderOvens 0 = .ok (.aload_n 0, 1) := by decide +kernel
theorem dX8_renderOvens_1 : decode cX8_renderOvens 1 = .ok (.iconst 0, 1) := by decide +kernel
theorem dX8_renderOvens_2 : decode cX8_renderOvens 2 = .ok (.putfield 41, 3) := by decide +kernel
theorem dX8_renderOvens_5 : decode cX8_renderOvens 5 = .ok (.aload_n 0, 1) := by decide +kernel
theorem dX8_renderOvens_6 : decode cX8_renderOvens 6 = .ok (.iconst 0, 1) := by decide +kernel
theorem dX8_renderOvens_7 : decode cX8_renderOvens 7 = .ok (.putfield 175, 3) := by decide +kernel
theorem dX8_renderOvens_10 : decode cX8_renderOvens 10 = .ok (.iconst 0, 1) := by decide +kernel
theorem dX8_renderOvens_11 : decode cX8_renderOvens 11 = .ok (.istore_n 1, 1) := by decide +kernel
theorem dX8_renderOvens_12 : decode cX8_renderOvens 12 = .ok (.iload_n 1, 1) := by decide +kernel
theorem dX8_renderOvens_13 : decode cX8_renderOvens 13 = .ok (.iconst 2, 1) := by decide +kernel
theorem dX8_renderOvens_14 : decode cX8_renderOvens 14 = .ok (.if_icmp .ge 76, 3) := by decide +kernel
theorem dX8_renderOvens_17 : decode cX8_renderOvens 17 = .ok (.iload_n 1, 1) := by decide +kernel
theorem dX8_renderOvens_18 : decode cX8_renderOvens 18 = .ok (.ifCond .le 9, 3) := by decide +kernel
theorem dX8_renderOvens_21 : decode cX8_renderOvens 21 = .ok (.aload_n 0, 1) := by decide +kernel
theorem dX8_renderOvens_22 : decode cX8_renderOvens 22 = .ok (.bipush 32, 2) := by decide +kernel
theorem dX8_renderOvens_24 : decode cX8_renderOvens 24 = .ok (.invokevirtual 181, 3) := by decide +kernel
theorem dX8_renderOvens_27 : decode cX8_renderOvens 27 = .ok (.aload_n 0, 1) := by decide +kernel
theorem dX8_renderOvens_28 : decode cX8_renderOvens 28 = .ok (.iload_n 1, 1) := by decide +kernel
theorem dX8_renderOvens_29 : decode cX8_renderOvens 29 = .ok (.invokevirtual 178, 3) := by decide +kernel
theorem dX8_renderOvens_32 : decode cX8_renderOvens 32 = .ok (.aload_n 0, 1) := by decide +kernel
theorem dX8_renderOvens_33 : decode cX8_renderOvens 33 = .ok (.bipush 58, 2) := by decide +kernel
theorem dX8_renderOvens_35 : decode cX8_renderOvens 35 = .ok (.invokevirtual 181, 3) := by decide +kernel
theorem dX8_renderOvens_38 : decode cX8_renderOvens 38 = .ok (.aload_n 0, 1) := by decide +kernel
theorem dX8_renderOvens_39 : decode cX8_renderOvens 39 = .ok (.iload_n 1, 1) := by decide +kernel
theorem dX8_renderOvens_40 : decode cX8_renderOvens 40 = .ok (.iconst 0, 1) := by decide +kernel
theorem dX8_renderOvens_41 : decode cX8_renderOvens 41 = .ok (.invokevirtual 137, 3) := by decide +kernel
theorem dX8_renderOvens_44 : decode cX8_renderOvens 44 = .ok (.ifCond .ne 12, 3) := by decide +kernel
theorem dX8_renderOvens_47 : decode cX8_renderOvens 47 = .ok (.aload_n 0, 1) := by decide +kernel
theorem dX8_renderOvens_48 : decode cX8_renderOvens 48 = .ok (.bipush 45, 2) := by decide +kernel
theorem dX8_renderOvens_50 : decode cX8_renderOvens 50 = .ok (.invokevirtual 181, 3) := by decide +kernel
theorem dX8_renderOvens_53 : decode cX8_renderOvens 53 = .ok (.goto 31, 3) := by decide +kernel
theorem dX8_renderOvens_56 : decode cX8_renderOvens 56 = .ok (.aload_n 0, 1) := by decide +kernel
theorem dX8_renderOvens_57 : decode cX8_renderOvens 57 = .ok (.aload_n 0, 1) := by decide +kernel
theorem dX8_renderOvens_58 : decode cX8_renderOvens 58 = .ok (.iload_n 1, 1) := by decide +kernel
theorem dX8_renderOvens_59 : decode cX8_renderOvens 59 = .ok (.iconst 0, 1) := by decide +kernel
theorem dX8_renderOvens_60 : decode cX8_renderOvens 60 = .ok (.invokevirtual 137, 3) := by decide +kernel
theorem dX8_renderOvens_63 : decode cX8_renderOvens 63 = .ok (.iconst 1, 1) := by decide +kernel
theorem dX8_renderOvens_64 : decode cX8_renderOvens 64 = .ok (.isub, 1) := by decide +kernel
theorem dX8_renderOvens_65 : decode cX8_renderOvens 65 = .ok (.invokevirtual 178, 3) := by decide +kernel
theorem dX8_renderOvens_68 : decode cX8_renderOvens 68 = .ok (.aload_n 0, 1) := by decide +kernel
theorem dX8_renderOvens_69 : decode cX8_renderOvens 69 = .ok (.bipush 120, 2) := by decide +kernel
theorem dX8_renderOvens_71 : decode cX8_renderOvens 71 = .ok (.invokevirtual 181, 3) := by decide +kernel
theorem dX8_renderOvens_74 : decode cX8_renderOvens 74 = .ok (.aload_n 0, 1) := by decide +kernel
theorem dX8_renderOvens_75 : decode cX8_renderOvens 75 = .ok (.aload_n 0, 1) := by decide +kernel
theorem dX8_renderOvens_76 : decode cX8_renderOvens 76 = .ok (.iload_n 1, 1) := by decide +kernel
theorem dX8_renderOvens_77 : decode cX8_renderOvens 77 = .ok (.iconst 1, 1) := by decide +kernel
theorem dX8_renderOvens_78 : decode cX8_renderOvens 78 = .ok (.invokevirtual 137, 3) := by decide +kernel
theorem dX8_renderOvens_81 : decode cX8_renderOvens 81 = .ok (.invokevirtual 178, 3) := by decide +kernel
theorem dX8_renderOvens_84 : decode cX8_renderOvens 84 = .ok (.iinc 1 1, 3) := by decide +kernel
theorem dX8_renderOvens_87 : decode cX8_renderOvens 87 = .ok (.goto (-75), 3) := by decide +kernel
theorem dX8_renderOvens_90 : decode cX8_renderOvens 90 = .ok (.aload_n 0, 1) := by decide +kernel
theorem dX8_renderOvens_91 : decode cX8_renderOvens 91 = .ok (.getfield 175, 3) := by decide +kernel
theorem dX8_renderOvens_94 : decode cX8_renderOvens 94 = .ok (.ireturn, 1) := by decide +kernel
theorem dX8_outputAt_0 : decode cX8_outputAt 0 = .ok (.aload_n 0, 1) := by decide +kernel
theorem dX8_outputAt_1 : decode cX8_outputAt 1 = .ok (.iload_n 1, 1) := by decide +kernel
theorem dX8_outputAt_2 : decode cX8_outputAt 2 = .ok (.iconst 0, 1) := by decide +kernel
theorem dX8_outputAt_3 : decode cX8_outputAt 3 = .ok (.aload_n 0, 1) := by decide +kernel
theorem dX8_outputAt_4 : decode cX8_outputAt 4 = .ok (.getfield 175, 3) := by decide +kernel
theorem dX8_outputAt_7 : decode cX8_outputAt 7 = .ok (.iconst 1, 1) := by decide +kernel
theorem dX8_outputAt_8 : decode cX8_outputAt 8 = .ok (.isub, 1) := by decide +kernel
theorem dX8_outputAt_9 : decode cX8_outputAt 9 = .ok (.invokestatic 51, 3) := by decide +kernel
theorem dX8_outputAt_12 : decode cX8_outputAt 12 = .ok (.ifCond .ne 7, 3) := by decide +kernel
theorem dX8_outputAt_15 : decode cX8_outputAt 15 = .ok (.iconst 1, 1) := by decide +kernel
theorem dX8_outputAt_16 : decode cX8_outputAt 16 = .ok (.goto 4, 3) := by decide +kernel
theorem dX8_outputAt_19 : decode cX8_outputAt 19 = .ok (.iconst 0, 1) := by decide +kernel
theorem dX8_outputAt_20 : decode cX8_outputAt 20 = .ok (.iconst 1, 1) := by decide +kernel
theorem dX8_outputAt_21 : decode cX8_outputAt 21 = .ok (.invokevirtual 73, 3) := by decide +kernel
theorem dX8_outputAt_24 : decode cX8_outputAt 24 = .ok (.ifCond .eq 7, 3) := by decide +kernel
theorem dX8_outputAt_27 : decode cX8_outputAt 27 = .ok (.iconst 0, 1) := by decide +kernel
theorem dX8_outputAt_28 : decode cX8_outputAt 28 = .ok (.goto 10, 3) := by decide +kernel
theorem dX8_outputAt_31 : decode cX8_outputAt 31 = .ok (.aload_n 0, 1) := by decide +kernel
theorem dX8_outputAt_32 : decode cX8_outputAt 32 = .ok (.getfield 32, 3) := by decide +kernel
theorem dX8_outputAt_35 : decode cX8_outputAt 35 = .ok (.iload_n 1, 1) := by decide +kernel
theorem dX8_outputAt_36 : decode cX8_outputAt 36 = .ok (.iaload, 1) := by decide +kernel
theorem dX8_outputAt_37 : decode cX8_outputAt 37 = .ok (.i2c, 1) := by decide +kernel
theorem dX8_outputAt_38 : decode cX8_outputAt 38 = .ok (.ireturn, 1) := by decide +kernel
theorem dX8_type_0 : decode cX8_type 0 = .ok (.aload_n 0, 1) := by decide +kernel
theorem dX8_type_1 : decode cX8_type 1 = .ok (.iload_n 1, 1) := by decide +kernel
theorem dX8_type_2 : decode cX8_type 2 = .ok (.bipush 32, 2) := by decide +kernel
theorem dX8_type_4 : decode cX8_type 4 = .ok (.bipush 126, 2) := by decide +kernel
theorem dX8_type_6 : decode cX8_type 6 = .ok (.invokestatic 51, 3) := by decide +kernel
theorem dX8_type_9 : decode cX8_type 9 = .ok (.ifCond .ne 7, 3) := by decide +kernel
theorem dX8_type_12 : decode cX8_type 12 = .ok (.iconst 1, 1) := by decide +kernel
theorem dX8_type_13 : decode cX8_type 13 = .ok (.goto 4, 3) := by decide +kernel
theorem dX8_type_16 : decode cX8_type 16 = .ok (.iconst 0, 1) := by decide +kernel
theorem dX8_type_17 : decode cX8_type 17 = .ok (.iconst 1, 1) := by decide +kernel
theorem dX8_type_18 : decode cX8_type 18 = .ok (.invokevirtual 73, 3) := by decide +kernel
theorem dX8_type_21 : decode cX8_type 21 = .ok (.ifCond .ne 25, 3) := by decide +kernel
theorem dX8_type_24 : decode cX8_type 24 = .ok (.aload_n 0, 1) := by decide +kernel
theorem dX8_type_25 : decode cX8_type 25 = .ok (.aload_n 0, 1) := by decide +kernel
theorem dX8_type_26 : decode cX8_type 26 = .ok (.getfield 184, 3) := by decide +kernel
theorem dX8_type_29 : decode cX8_type 29 = .ok (.bipush 60, 2) := by decide +kernel
theorem dX8_type_31 : decode cX8_type 31 = .ok (.if_icmp .ne 7, 3) := by decide +kernel
theorem dX8_type_34 : decode cX8_type 34 = .ok (.iconst 1, 1) := by decide +kernel
theorem dX8_type_35 : decode cX8_type 35 = .ok (.goto 4, 3) := by decide +kernel
theorem dX8_type_38 : decode cX8_type 38 = .ok (.iconst 0, 1) := by decide +kernel
theorem dX8_type_39 : decode cX8_type 39 = .ok (.iconst 2, 1) := by decide +kernel
theorem dX8_type_40 : decode cX8_type 40 = .ok (.invokevirtual 73, 3) := by decide +kernel
theorem dX8_type_43 : decode cX8_type 43 = .ok (.ifCond .eq 5, 3) := by decide +kernel
theorem dX8_type_46 : decode cX8_type 46 = .ok (.iconst 0, 1) := by decide +kernel
theorem dX8_type_47 : decode cX8_type 47 = .ok (.ireturn, 1) := by decide +kernel
theorem dX8_type_48 : decode cX8_type 48 = .ok (.aload_n 0, 1) := by decide +kernel
theorem dX8_type_49 : decode cX8_type 49 = .ok (.getfield 35, 3) := by decide +kernel
theorem dX8_type_52 : decode cX8_type 52 = .ok (.aload_n 0, 1) := by decide +kernel
theorem dX8_type_53 : decode cX8_type 53 = .ok (.getfield 184, 3) := by decide +kernel
theorem dX8_type_56 : decode cX8_type 56 = .ok (.iload_n 1, 1) := by decide +kernel
theorem dX8_type_57 : decode cX8_type 57 = .ok (.iastore, 1) := by decide +kernel
theorem dX8_type_58 : decode cX8_type 58 = .ok (.aload_n 0, 1) := by decide +kernel
theorem dX8_type_59 : decode cX8_type 59 = .ok (.dup, 1) := by decide +kernel
theorem dX8_type_60 : decode cX8_type 60 = .ok (.getfield 184, 3) := by decide +kernel
theorem dX8_type_63 : decode cX8_type 63 = .ok (.iconst 1, 1) := by decide +kernel
theorem dX8_type_64 : decode cX8_type 64 = .ok (.iadd, 1) := by decide +kernel
theorem dX8_type_65 : decode cX8_type 65 = .ok (.putfield 184, 3) := by decide +kernel
theorem dX8_type_68 : decode cX8_type 68 = .ok (.aload_n 0, 1) := by decide +kernel
theorem dX8_type_69 : decode cX8_type 69 = .ok (.getfield 184, 3) := by decide +kernel
theorem dX8_type_72 : decode cX8_type 72 = .ok (.ireturn, 1) := by decide +kernel
theorem dX8_now_0 : decode cX8_now 0 = .ok (.aload_n 0, 1) := by decide +kernel
theorem dX8_now_1 : decode cX8_now 1 = .ok (.getfield 187, 3) := by decide +kernel
theorem dX8_now_4 : decode cX8_now 4 = .ok (.aload_n 0, 1) := by decide +kernel
theorem dX8_now_5 : decode cX8_now 5 = .ok (.getfield 184, 3) := by decide +kernel
theorem dX8_now_8 : decode cX8_now 8 = .ok (.if_icmp .ge 15, 3) := by decide +kernel
theorem dX8_now_11 : decode cX8_now 11 = .ok (.aload_n 0, 1) := by decide +kernel
theorem dX8_now_12 : decode cX8_now 12 = .ok (.getfield 35, 3) := by decide +kernel
theorem dX8_now_15 : decode cX8_now 15 = .ok (.aload_n 0, 1) := by decide +kernel
theorem dX8_now_16 : decode cX8_now 16 = .ok (.getfield 187, 3) := by decide +kernel
theorem dX8_now_19 : decode cX8_now 19 = .ok (.iaload, 1) := by decide +kernel
theorem dX8_now_20 : decode cX8_now 20 = .ok (.goto 4, 3) := by decide +kernel
theorem dX8_now_23 : decode cX8_now 23 = .ok (.iconst (-1), 1) := by decide +kernel
theorem dX8_now_24 : decode cX8_now 24 = .ok (.ireturn, 1) := by decide +kernel
theorem dX8_isSign_0 : decode cX8_isSign 0 = .ok (.aload_n 0, 1) := by decide +kernel
theorem dX8_isSign_1 : decode cX8_isSign 1 = .ok (.invokevirtual 190, 3) := by decide +kernel
theorem dX8_isSign_4 : decode cX8_isSign 4 = .ok (.iload_n 1, 1) := by decide +kernel
theorem dX8_isSign_5 : decode cX8_isSign 5 = .ok (.if_icmp .ne 7, 3) := by decide +kernel
theorem dX8_isSign_8 : decode cX8_isSign 8 = .ok (.iconst 1, 1) := by decide +kernel
theorem dX8_isSign_9 : decode cX8_isSign 9 = .ok (.goto 4, 3) := by decide +kernel
theorem dX8_isSign_12 : decode cX8_isSign 12 = .ok (.iconst 0, 1) := by decide +kernel
theorem dX8_isSign_13 : decode cX8_isSign 13 = .ok (.istore_n 2, 1) := by decide +kernel
theorem dX8_isSign_14 : decode cX8_isSign 14 = .ok (.aload_n 0, 1) := by decide +kernel
theorem dX8_isSign_15 : decode cX8_isSign 15 = .ok (.dup, 1) := by decide +kernel
theorem dX8_isSign_16 : decode cX8_isSign 16 = .ok (.getfield 187, 3) := by decide +kernel
theorem dX8_isSign_19 : decode cX8_isSign 19 = .ok (.iload_n 2, 1) := by decide +kernel
theorem dX8_isSign_20 : decode cX8_isSign 20 = .ok (.ifCond .eq 7, 3) := by decide +kernel
theorem dX8_isSign_23 : decode cX8_isSign 23 = .ok (.iconst 1, 1) := by decide +kernel
theorem dX8_isSign_24 : decode cX8_isSign 24 = .ok (.goto 4, 3) := by decide +kernel
theorem dX8_isSign_27 : decode cX8_isSign 27 = .ok (.iconst 0, 1) := by decide +kernel
theorem dX8_isSign_28 : decode cX8_isSign 28 = .ok (.iadd, 1) := by decide +kernel
theorem dX8_isSign_29 : decode cX8_isSign 29 = .ok (.putfield 187, 3) := by decide +kernel
theorem dX8_isSign_32 : decode cX8_isSign 32 = .ok (.iload_n 2, 1) := by decide +kernel
theorem dX8_isSign_33 : decode cX8_isSign 33 = .ok (.ireturn, 1) := by decide +kernel
theorem dX8_isNumber_0 : decode cX8_isNumber 0 = .ok (.iconst 0, 1) := by decide +kernel
theorem dX8_isNumber_1 : decode cX8_isNumber 1 = .ok (.istore_n 3, 1) := by decide +kernel
theorem dX8_isNumber_2 : decode cX8_isNumber 2 = .ok (.iconst 0, 1) := by decide +kernel
theorem dX8_isNumber_3 : decode cX8_isNumber 3 = .ok (.istore 4, 2) := by decide +kernel
theorem dX8_isNumber_5 : decode cX8_isNumber 5 = .ok (.iload 4, 2) := by decide +kernel
theorem dX8_isNumber_7 : decode cX8_isNumber 7 = .ok (.iload_n 1, 1) := by decide +kernel
theorem dX8_isNumber_8 : decode cX8_isNumber 8 = .ok (.if_icmp .ge 46, 3) := by decide +kernel
theorem dX8_isNumber_11 : decode cX8_isNumber 11 = .ok (.aload_n 0, 1) := by decide +kernel
theorem dX8_isNumber_12 : decode cX8_isNumber 12 = .ok (.invokevirtual 190, 3) := by decide +kernel
theorem dX8_isNumber_15 : decode cX8_isNumber 15 = .ok (.bipush 48, 2) := by decide +kernel
theorem dX8_isNumber_17 : decode cX8_isNumber 17 = .ok (.bipush 57, 2) := by decide +kernel
theorem dX8_isNumber_19 : decode cX8_isNumber 19 = .ok (.invokestatic 51, 3) := by decide +kernel
theorem dX8_isNumber_22 : decode cX8_isNumber 22 = .ok (.ifCond .eq 32, 3) := by decide +kernel
theorem dX8_isNumber_25 : decode cX8_isNumber 25 = .ok (.bipush 10, 2) := by decide +kernel
theorem dX8_isNumber_27 : decode cX8_isNumber 27 = .ok (.iload_n 3, 1) := by decide +kernel
theorem dX8_isNumber_28 : decode cX8_isNumber 28 = .ok (.imul, 1) := by decide +kernel
theorem dX8_isNumber_29 : decode cX8_isNumber 29 = .ok (.aload_n 0, 1) := by decide +kernel
theorem dX8_isNumber_30 : decode cX8_isNumber 30 = .ok (.invokevirtual 190, 3) := by decide +kernel
theorem dX8_isNumber_33 : decode cX8_isNumber 33 = .ok (.iadd, 1) := by decide +kernel
theorem dX8_isNumber_34 : decode cX8_isNumber 34 = .ok (.bipush 48, 2) := by decide +kernel
theorem dX8_isNumber_36 : decode cX8_isNumber 36 = .ok (.isub, 1) := by decide +kernel
theorem dX8_isNumber_37 : decode cX8_isNumber 37 = .ok (.istore_n 3, 1) := by decide +kernel
theorem dX8_isNumber_38 : decode cX8_isNumber 38 = .ok (.aload_n 0, 1) := by decide +kernel
theorem dX8_isNumber_39 : decode cX8_isNumber 39 = .ok (.dup, 1) := by decide +kernel
theorem dX8_isNumber_40 : decode cX8_isNumber 40 = .ok (.getfield 187, 3) := by decide +kernel
theorem dX8_isNumber_43 : decode cX8_isNumber 43 = .ok (.iconst 1, 1) := by decide +kernel
theorem dX8_isNumber_44 : decode cX8_isNumber 44 = .ok (.iadd, 1) := by decide +kernel
theorem dX8_isNumber_45 : decode cX8_isNumber 45 = .ok (.putfield 187, 3) := by decide +kernel
theorem dX8_isNumber_48 : decode cX8_isNumber 48 = .ok (.iinc 4 1, 3) := by decide +kernel
theorem dX8_isNumber_51 : decode cX8_isNumber 51 = .ok (.goto (-46), 3) := by decide +kernel
theorem dX8_isNumber_54 : decode cX8_isNumber 54 = .ok (.aload_n 0, 1) := by decide +kernel
theorem dX8_isNumber_55 : decode cX8_isNumber 55 = .ok (.getfield 38, 3) := by decide +kernel
theorem dX8_isNumber_58 : decode cX8_isNumber 58 = .ok (.iload_n 2, 1) := by decide +kernel
theorem dX8_isNumber_59 : decode cX8_isNumber 59 = .ok (.iload_n 3, 1) := by decide +kernel
theorem dX8_isNumber_60 : decode cX8_isNumber 60 = .ok (.iastore, 1) := by decide +kernel
theorem dX8_isNumber_61 : decode cX8_isNumber 61 = .ok (.iload 4, 2) := by decide +kernel
theorem dX8_isNumber_63 : decode cX8_isNumber 63 = .ok (.ifCond .le 7, 3) := by decide +kernel
theorem dX8_isNumber_66 : decode cX8_isNumber 66 = .ok (.iconst 1, 1) := by decide +kernel
theorem dX8_isNumber_67 : decode cX8_isNumber 67 = .ok (.goto 4, 3) := by decide +kernel
theorem dX8_isNumber_70 : decode cX8_isNumber 70 = .ok (.iconst 0, 1) := by decide +kernel
theorem dX8_isNumber_71 : decode cX8_isNumber 71 = .ok (.ireturn, 1) := by decide +kernel
theorem dX8_isWord_0 : decode cX8_isWord 0 = .ok (.iconst 0, 1) := by decide +kernel
theorem dX8_isWord_1 : decode cX8_isWord 1 = .ok (.istore_n 2, 1) := by decide +kernel
theorem dX8_isWord_2 : decode cX8_isWord 2 = .ok (.iload_n 2, 1) := by decide +kernel
theorem dX8_isWord_3 : decode cX8_isWord 3 = .ok (.aload_n 1, 1) := by decide +kernel
theorem dX8_isWord_4 : decode cX8_isWord 4 = .ok (.invokevirtual 193, 3) := by decide +kernel
theorem dX8_isWord_7 : decode cX8_isWord 7 = .ok (.if_icmp .ge 23, 3) := by decide +kernel
theorem dX8_isWord_10 : decode cX8_isWord 10 = .ok (.aload_n 0, 1) := by decide +kernel
theorem dX8_isWord_11 : decode cX8_isWord 11 = .ok (.aload_n 1, 1) := by decide +kernel
theorem dX8_isWord_12 : decode cX8_isWord 12 = .ok (.iload_n 2, 1) := by decide +kernel
theorem dX8_isWord_13 : decode cX8_isWord 13 = .ok (.invokevirtual 198, 3) := by decide +kernel
theorem dX8_isWord_16 : decode cX8_isWord 16 = .ok (.invokevirtual 202, 3) := by decide +kernel
theorem dX8_isWord_19 : decode cX8_isWord 19 = .ok (.ifCond .ne 5, 3) := by decide +kernel
theorem dX8_isWord_22 : decode cX8_isWord 22 = .ok (.iconst 0, 1) := by decide +kernel
theorem dX8_isWord_23 : decode cX8_isWord 23 = .ok (.ireturn, 1) := by decide +kernel
theorem dX8_isWord_24 : decode cX8_isWord 24 = .ok (.iinc 2 1, 3) := by decide +kernel
theorem dX8_isWord_27 : decode cX8_isWord 27 = .ok (.goto (-25), 3) := by decide +kernel
theorem dX8_isWord_30 : decode cX8_isWord 30 = .ok (.iconst 1, 1) := by decide +kernel
theorem dX8_isWord_31 : decode cX8_isWord 31 = .ok (.ireturn, 1) := by decide +kernel
theorem dX8_isThree_0 : decode cX8_isThree 0 = .ok (.aload_n 0, 1) := by decide +kernel
theorem dX8_isThree_1 : decode cX8_isThree 1 = .ok (.iconst 1, 1) := by decide +kernel
theorem dX8_isThree_2 : decode cX8_isThree 2 = .ok (.iload_n 1, 1) := by decide +kernel
theorem dX8_isThree_3 : decode cX8_isThree 3 = .ok (.invokevirtual 205, 3) := by decide +kernel
theorem dX8_isThree_6 : decode cX8_isThree 6 = .ok (.ifCond .eq 29, 3) := by decide +kernel
theorem dX8_isThree_9 : decode cX8_isThree 9 = .ok (.aload_n 0, 1) := by decide +kernel
theorem dX8_isThree_10 : decode cX8_isThree 10 = .ok (.iconst 1, 1) := by decide +kernel
theorem dX8_isThree_11 : decode cX8_isThree 11 = .ok (.iload_n 1, 1) := by decide +kernel
theorem dX8_isThree_12 : decode cX8_isThree 12 = .ok (.iconst 1, 1) := by decide +kernel
theorem dX8_isThree_13 : decode cX8_isThree 13 = .ok (.iadd, 1) := by decide +kernel
theorem dX8_isThree_14 : decode cX8_isThree 14 = .ok (.invokevirtual 205, 3) := by decide +kernel
theorem dX8_isThree_17 : decode cX8_isThree 17 = .ok (.ifCond .eq 18, 3) := by decide +kernel
theorem dX8_isThree_20 : decode cX8_isThree 20 = .ok (.aload_n 0, 1) := by decide +kernel
theorem dX8_isThree_21 : decode cX8_isThree 21 = .ok (.iconst 1, 1) := by decide +kernel
theorem dX8_isThree_22 : decode cX8_isThree 22 = .ok (.iload_n 1, 1) := by decide +kernel
theorem dX8_isThree_23 : decode cX8_isThree 23 = .ok (.iconst 2, 1) := by decide +kernel
theorem dX8_isThree_24 : decode cX8_isThree 24 = .ok (.iadd, 1) := by decide +kernel
theorem dX8_isThree_25 : decode cX8_isThree 25 = .ok (.invokevirtual 205, 3) := by decide +kernel
theorem dX8_isThree_28 : decode cX8_isThree 28 = .ok (.ifCond .eq 7, 3) := by decide +kernel
theorem dX8_isThree_31 : decode cX8_isThree 31 = .ok (.iconst 1, 1) := by decide +kernel
theorem dX8_isThree_32 : decode cX8_isThree 32 = .ok (.goto 4, 3) := by decide +kernel
theorem dX8_isThree_35 : decode cX8_isThree 35 = .ok (.iconst 0, 1) := by decide +kernel
theorem dX8_isThree_36 : decode cX8_isThree 36 = .ok (.ireturn, 1) := by decide +kernel
theorem dX8_isSteps_0 : decode cX8_isSteps 0 = .ok (.aload_n 0, 1) := by decide +kernel
theorem dX8_isSteps_1 : decode cX8_isSteps 1 = .ok (.invokevirtual 190, 3) := by decide +kernel
theorem dX8_isSteps_4 : decode cX8_isSteps 4 = .ok (.bipush 45, 2) := by decide +kernel
theorem dX8_isSteps_6 : decode cX8_isSteps 6 = .ok (.if_icmp .ne 7, 3) := by decide +kernel
theorem dX8_isSteps_9 : decode cX8_isSteps 9 = .ok (.iconst 1, 1) := by decide +kernel
theorem dX8_isSteps_10 : decode cX8_isSteps 10 = .ok (.goto 4, 3) := by decide +kernel
theorem dX8_isSteps_13 : decode cX8_isSteps 13 = .ok (.iconst 0, 1) := by decide +kernel
theorem dX8_isSteps_14 : decode cX8_isSteps 14 = .ok (.istore_n 2, 1) := by decide +kernel
theorem dX8_isSteps_15 : decode cX8_isSteps 15 = .ok (.aload_n 0, 1) := by decide +kernel
theorem dX8_isSteps_16 : decode cX8_isSteps 16 = .ok (.bipush 43, 2) := by decide +kernel
theorem dX8_isSteps_18 : decode cX8_isSteps 18 = .ok (.invokevirtual 202, 3) := by decide +kernel
theorem dX8_isSteps_21 : decode cX8_isSteps 21 = .ok (.ifCond .ne 12, 3) := by decide +kernel
theorem dX8_isSteps_24 : decode cX8_isSteps 24 = .ok (.aload_n 0, 1) := by decide +kernel
theorem dX8_isSteps_25 : decode cX8_isSteps 25 = .ok (.bipush 45, 2) := by decide +kernel
theorem dX8_isSteps_27 : decode cX8_isSteps 27 = .ok (.invokevirtual 202, 3) := by decide +kernel
theorem dX8_isSteps_30 : decode cX8_isSteps 30 = .ok (.ifCond .eq 12, 3) := by decide +kernel
theorem dX8_isSteps_33 : decode cX8_isSteps 33 = .ok (.aload_n 0, 1) := by decide +kernel
theorem dX8_isSteps_34 : decode cX8_isSteps 34 = .ok (.iconst 1, 1) := by decide +kernel
theorem dX8_isSteps_35 : decode cX8_isSteps 35 = .ok (.iload_n 1, 1) := by decide +kernel
theorem dX8_isSteps_36 : decode cX8_isSteps 36 = .ok (.invokevirtual 205, 3) := by decide +kernel
theorem dX8_isSteps_39 : decode cX8_isSteps 39 = .ok (.ifCond .ne 5, 3) := by decide +kernel
theorem dX8_isSteps_42 : decode cX8_isSteps 42 = .ok (.iconst 0, 1) := by decide +kernel
theorem dX8_isSteps_43 : decode cX8_isSteps 43 = .ok (.ireturn, 1) := by decide +kernel
theorem dX8_isSteps_44 : decode cX8_isSteps 44 = .ok (.aload_n 0, 1) := by decide +kernel
theorem dX8_isSteps_45 : decode cX8_isSteps 45 = .ok (.getfield 38, 3) := by decide +kernel
theorem dX8_isSteps_48 : decode cX8_isSteps 48 = .ok (.iload_n 1, 1) := by decide +kernel
theorem dX8_isSteps_49 : decode cX8_isSteps 49 = .ok (.iload_n 2, 1) := by decide +kernel
theorem dX8_isSteps_50 : decode cX8_isSteps 50 = .ok (.ifCond .eq 13, 3) := by decide +kernel
theorem dX8_isSteps_53 : decode cX8_isSteps 53 = .ok (.aload_n 0, 1) := by decide +kernel
theorem dX8_isSteps_54 : decode cX8_isSteps 54 = .ok (.getfield 38, 3) := by decide +kernel
theorem dX8_isSteps_57 : decode cX8_isSteps 57 = .ok (.iload_n 1, 1) := by decide +kernel
theorem dX8_isSteps_58 : decode cX8_isSteps 58 = .ok (.iaload, 1) := by decide +kernel
theorem dX8_isSteps_59 : decode cX8_isSteps 59 = .ok (.ineg, 1) := by decide +kernel
theorem dX8_isSteps_60 : decode cX8_isSteps 60 = .ok (.goto 9, 3) := by decide +kernel
theorem dX8_isSteps_63 : decode cX8_isSteps 63 = .ok (.aload_n 0, 1) := by decide +kernel
theorem dX8_isSteps_64 : decode cX8_isSteps 64 = .ok (.getfield 38, 3) := by decide +kernel
theorem dX8_isSteps_67 : decode cX8_isSteps 67 = .ok (.iload_n 1, 1) := by decide +kernel
theorem dX8_isSteps_68 : decode cX8_isSteps 68 = .ok (.iaload, 1) := by decide +kernel
theorem dX8_isSteps_69 : decode cX8_isSteps 69 = .ok (.iastore, 1) := by decide +kernel
theorem dX8_isSteps_70 : decode cX8_isSteps 70 = .ok (.iconst 1, 1) := by decide +kernel
theorem dX8_isSteps_71 : decode cX8_isSteps 71 = .ok (.ireturn, 1) := by decide +kernel
theorem dX8_readsT_0 : decode cX8_readsT 0 = .ok (.aload_n 0, 1) := by decide +kernel
theorem dX8_readsT_1 : decode cX8_readsT 1 = .ok (.bipush 117, 2) := by decide +kernel
theorem dX8_readsT_3 : decode cX8_readsT 3 = .ok (.invokevirtual 202, 3) := by decide +kernel
theorem dX8_readsT_6 : decode cX8_readsT 6 = .ok (.ifCond .eq 50, 3) := by decide +kernel
theorem dX8_readsT_9 : decode cX8_readsT 9 = .ok (.aload_n 0, 1) := by decide +kernel
theorem dX8_readsT_10 : decode cX8_readsT 10 = .ok (.ldc 208, 2) := by decide +kernel
theorem dX8_readsT_12 : decode cX8_readsT 12 = .ok (.invokevirtual 210, 3) := by decide +kernel
theorem dX8_readsT_15 : decode cX8_readsT 15 = .ok (.ifCond .eq 39, 3) := by decide +kernel
theorem dX8_readsT_18 : decode cX8_readsT 18 = .ok (.aload_n 0, 1) := by decide +kernel
theorem dX8_readsT_19 : decode cX8_readsT 19 = .ok (.iconst 1, 1) := by decide +kernel
theorem dX8_readsT_20 : decode cX8_readsT 20 = .ok (.iload_n 1, 1) := by decide +kernel
theorem dX8_readsT_21 : decode cX8_readsT 21 = .ok (.iconst 1, 1) := by decide +kernel
theorem dX8_readsT_22 : decode cX8_readsT 22 = .ok (.iadd, 1) := by decide +kernel
theorem dX8_readsT_23 : decode cX8_readsT 23 = .ok (.invokevirtual 205, 3) := by decide +kernel
theorem dX8_readsT_26 : decode cX8_readsT 26 = .ok (.ifCond .eq 28, 3) := by decide +kernel
theorem dX8_readsT_29 : decode cX8_readsT 29 = .ok (.aload_n 0, 1) := by decide +kernel
theorem dX8_readsT_30 : decode cX8_readsT 30 = .ok (.iconst 1, 1) := by decide +kernel
theorem dX8_readsT_31 : decode cX8_readsT 31 = .ok (.iload_n 1, 1) := by decide +kernel
theorem dX8_readsT_32 : decode cX8_readsT 32 = .ok (.iconst 2, 1) := by decide +kernel
theorem dX8_readsT_33 : decode cX8_readsT 33 = .ok (.iadd, 1) := by decide +kernel
theorem dX8_readsT_34 : decode cX8_readsT 34 = .ok (.invokevirtual 205, 3) := by decide +kernel
theorem dX8_readsT_37 : decode cX8_readsT 37 = .ok (.ifCond .eq 17, 3) := by decide +kernel
theorem dX8_readsT_40 : decode cX8_readsT 40 = .ok (.aload_n 0, 1) := by decide +kernel
theorem dX8_readsT_41 : decode cX8_readsT 41 = .ok (.iload_n 1, 1) := by decide +kernel
theorem dX8_readsT_42 : decode cX8_readsT 42 = .ok (.iconst 3, 1) := by decide +kernel
theorem dX8_readsT_43 : decode cX8_readsT 43 = .ok (.iadd, 1) := by decide +kernel
theorem dX8_readsT_44 : decode cX8_readsT 44 = .ok (.invokevirtual 214, 3) := by decide +kernel
theorem dX8_readsT_47 : decode cX8_readsT 47 = .ok (.ifCond .eq 7, 3) := by decide +kernel
theorem dX8_readsT_50 : decode cX8_readsT 50 = .ok (.iconst 1, 1) := by decide +kernel
theorem dX8_readsT_51 : decode cX8_readsT 51 = .ok (.goto 4, 3) := by decide +kernel
theorem dX8_readsT_54 : decode cX8_readsT 54 = .ok (.iconst 0, 1) := by decide +kernel
theorem dX8_readsT_55 : decode cX8_readsT 55 = .ok (.ireturn, 1) := by decide +kernel
theorem dX8_readsT_56 : decode cX8_readsT 56 = .ok (.aload_n 0, 1) := by decide +kernel
theorem dX8_readsT_57 : decode cX8_readsT 57 = .ok (.getfield 38, 3) := by decide +kernel
theorem dX8_readsT_60 : decode cX8_readsT 60 = .ok (.iload_n 1, 1) := by decide +kernel
theorem dX8_readsT_61 : decode cX8_readsT 61 = .ok (.bipush 114, 2) := by decide +kernel
theorem dX8_readsT_63 : decode cX8_readsT 63 = .ok (.iastore, 1) := by decide +kernel
theorem dX8_readsT_64 : decode cX8_readsT 64 = .ok (.aload_n 0, 1) := by decide +kernel
theorem dX8_readsT_65 : decode cX8_readsT 65 = .ok (.ldc 217, 2) := by decide +kernel
theorem dX8_readsT_67 : decode cX8_readsT 67 = .ok (.invokevirtual 210, 3) := by decide +kernel
theorem dX8_readsT_70 : decode cX8_readsT 70 = .ok (.ifCond .eq 18, 3) := by decide +kernel
theorem dX8_readsT_73 : decode cX8_readsT 73 = .ok (.aload_n 0, 1) := by decide +kernel
theorem dX8_readsT_74 : decode cX8_readsT 74 = .ok (.iconst 1, 1) := by decide +kernel
theorem dX8_readsT_75 : decode cX8_readsT 75 = .ok (.iload_n 1, 1) := by decide +kernel
theorem dX8_readsT_76 : decode cX8_readsT 76 = .ok (.iconst 1, 1) := by decide +kernel
theorem dX8_readsT_77 : decode cX8_readsT 77 = .ok (.iadd, 1) := by decide +kernel
theorem dX8_readsT_78 : decode cX8_readsT 78 = .ok (.invokevirtual 205, 3) := by decide +kernel
theorem dX8_readsT_81 : decode cX8_readsT 81 = .ok (.ifCond .eq 7, 3) := by decide +kernel
theorem dX8_readsT_84 : decode cX8_readsT 84 = .ok (.iconst 1, 1) := by decide +kernel
theorem dX8_readsT_85 : decode cX8_readsT 85 = .ok (.goto 4, 3) := by decide +kernel
theorem dX8_readsT_88 : decode cX8_readsT 88 = .ok (.iconst 0, 1) := by decide +kernel
theorem dX8_readsT_89 : decode cX8_readsT 89 = .ok (.ireturn, 1) := by decide +kernel
theorem dX8_readsD_0 : decode cX8_readsD 0 = .ok (.aload_n 0, 1) := by decide +kernel
theorem dX8_readsD_1 : decode cX8_readsD 1 = .ok (.bipush 111, 2) := by decide +kernel
theorem dX8_readsD_3 : decode cX8_readsD 3 = .ok (.invokevirtual 202, 3) := by decide +kernel
theorem dX8_readsD_6 : decode cX8_readsD 6 = .ok (.ifCond .eq 28, 3) := by decide +kernel
theorem dX8_readsD_9 : decode cX8_readsD 9 = .ok (.aload_n 0, 1) := by decide +kernel
theorem dX8_readsD_10 : decode cX8_readsD 10 = .ok (.ldc 219, 2) := by decide +kernel
theorem dX8_readsD_12 : decode cX8_readsD 12 = .ok (.invokevirtual 210, 3) := by decide +kernel
theorem dX8_readsD_15 : decode cX8_readsD 15 = .ok (.ifCond .eq 17, 3) := by decide +kernel
theorem dX8_readsD_18 : decode cX8_readsD 18 = .ok (.aload_n 0, 1) := by decide +kernel
theorem dX8_readsD_19 : decode cX8_readsD 19 = .ok (.iload_n 1, 1) := by decide +kernel
theorem dX8_readsD_20 : decode cX8_readsD 20 = .ok (.iconst 1, 1) := by decide +kernel
theorem dX8_readsD_21 : decode cX8_readsD 21 = .ok (.iadd, 1) := by decide +kernel
theorem dX8_readsD_22 : decode cX8_readsD 22 = .ok (.invokevirtual 221, 3) := by decide +kernel
theorem dX8_readsD_25 : decode cX8_readsD 25 = .ok (.ifCond .eq 7, 3) := by decide +kernel
theorem dX8_readsD_28 : decode cX8_readsD 28 = .ok (.iconst 1, 1) := by decide +kernel
theorem dX8_readsD_29 : decode cX8_readsD 29 = .ok (.goto 4, 3) := by decide +kernel
theorem dX8_readsD_32 : decode cX8_readsD 32 = .ok (.iconst 0, 1) := by decide +kernel
theorem dX8_readsD_33 : decode cX8_readsD 33 = .ok (.ireturn, 1) := by decide +kernel
theorem dX8_readsD_34 : decode cX8_readsD 34 = .ok (.aload_n 0, 1) := by decide +kernel
theorem dX8_readsD_35 : decode cX8_readsD 35 = .ok (.getfield 38, 3) := by decide +kernel
theorem dX8_readsD_38 : decode cX8_readsD 38 = .ok (.iload_n 1, 1) := by decide +kernel
theorem dX8_readsD_39 : decode cX8_readsD 39 = .ok (.bipush 97, 2) := by decide +kernel
theorem dX8_readsD_41 : decode cX8_readsD 41 = .ok (.iastore, 1) := by decide +kernel
theorem dX8_readsD_42 : decode cX8_readsD 42 = .ok (.aload_n 0, 1) := by decide +kernel
theorem dX8_readsD_43 : decode cX8_readsD 43 = .ok (.ldc 224, 2) := by decide +kernel
theorem dX8_readsD_45 : decode cX8_readsD 45 = .ok (.invokevirtual 210, 3) := by decide +kernel
theorem dX8_readsD_48 : decode cX8_readsD 48 = .ok (.ifCond .eq 18, 3) := by decide +kernel
theorem dX8_readsD_51 : decode cX8_readsD 51 = .ok (.aload_n 0, 1) := by decide +kernel
theorem dX8_readsD_52 : decode cX8_readsD 52 = .ok (.iconst 1, 1) := by decide +kernel
theorem dX8_readsD_53 : decode cX8_readsD 53 = .ok (.iload_n 1, 1) := by decide +kernel
theorem dX8_readsD_54 : decode cX8_readsD 54 = .ok (.iconst 1, 1) := by decide +kernel
theorem dX8_readsD_55 : decode cX8_readsD 55 = .ok (.iadd, 1) := by decide +kernel
theorem dX8_readsD_56 : decode cX8_readsD 56 = .ok (.invokevirtual 205, 3) := by decide +kernel
theorem dX8_readsD_59 : decode cX8_readsD 59 = .ok (.ifCond .eq 7, 3) := by decide +kernel
theorem dX8_readsD_62 : decode cX8_readsD 62 = .ok (.iconst 1, 1) := by decide +kernel
theorem dX8_readsD_63 : decode cX8_readsD 63 = .ok (.goto 4, 3) := by decide +kernel
theorem dX8_readsD_66 : decode cX8_readsD 66 = .ok (.iconst 0, 1) := by decide +kernel
theorem dX8_readsD_67 : decode cX8_readsD 67 = .ok (.ireturn, 1) := by decide +kernel
theorem dX8_readsS_0 : decode cX8_readsS 0 = .ok (.aload_n 0, 1) := by decide +kernel
theorem dX8_readsS_1 : decode cX8_readsS 1 = .ok (.bipush 104, 2) := by decide +kernel
theorem dX8_readsS_3 : decode cX8_readsS 3 = .ok (.invokevirtual 202, 3) := by decide +kernel
theorem dX8_readsS_6 : decode cX8_readsS 6 = .ok (.ifCond .eq 29, 3) := by decide +kernel
theorem dX8_readsS_9 : decode cX8_readsS 9 = .ok (.aload_n 0, 1) := by decide +kernel
theorem dX8_readsS_10 : decode cX8_readsS 10 = .ok (.ldc 226, 2) := by decide +kernel
theorem dX8_readsS_12 : decode cX8_readsS 12 = .ok (.invokevirtual 210, 3) := by decide +kernel
theorem dX8_readsS_15 : decode cX8_readsS 15 = .ok (.ifCond .eq 18, 3) := by decide +kernel
theorem dX8_readsS_18 : decode cX8_readsS 18 = .ok (.aload_n 0, 1) := by decide +kernel
theorem dX8_readsS_19 : decode cX8_readsS 19 = .ok (.iconst 1, 1) := by decide +kernel
theorem dX8_readsS_20 : decode cX8_readsS 20 = .ok (.iload_n 1, 1) := by decide +kernel
theorem dX8_readsS_21 : decode cX8_readsS 21 = .ok (.iconst 1, 1) := by decide +kernel
theorem dX8_readsS_22 : decode cX8_readsS 22 = .ok (.iadd, 1) := by decide +kernel
theorem dX8_readsS_23 : decode cX8_readsS 23 = .ok (.invokevirtual 205, 3) := by decide +kernel
theorem dX8_readsS_26 : decode cX8_readsS 26 = .ok (.ifCond .eq 7, 3) := by decide +kernel
theorem dX8_readsS_29 : decode cX8_readsS 29 = .ok (.iconst 1, 1) := by decide +kernel
theorem dX8_readsS_30 : decode cX8_readsS 30 = .ok (.goto 4, 3) := by decide +kernel
theorem dX8_readsS_33 : decode cX8_readsS 33 = .ok (.iconst 0, 1) := by decide +kernel
theorem dX8_readsS_34 : decode cX8_readsS 34 = .ok (.ireturn, 1) := by decide +kernel
theorem dX8_readsS_35 : decode cX8_readsS 35 = .ok (.aload_n 0, 1) := by decide +kernel
theorem dX8_readsS_36 : decode cX8_readsS 36 = .ok (.getfield 38, 3) := by decide +kernel
theorem dX8_readsS_39 : decode cX8_readsS 39 = .ok (.iload_n 1, 1) := by decide +kernel
theorem dX8_readsS_40 : decode cX8_readsS 40 = .ok (.bipush 101, 2) := by decide +kernel
theorem dX8_readsS_42 : decode cX8_readsS 42 = .ok (.iastore, 1) := by decide +kernel
theorem dX8_readsS_43 : decode cX8_readsS 43 = .ok (.aload_n 0, 1) := by decide +kernel
theorem dX8_readsS_44 : decode cX8_readsS 44 = .ok (.ldc 228, 2) := by decide +kernel
theorem dX8_readsS_46 : decode cX8_readsS 46 = .ok (.invokevirtual 210, 3) := by decide +kernel
theorem dX8_readsS_49 : decode cX8_readsS 49 = .ok (.ifCond .eq 37, 3) := by decide +kernel
theorem dX8_readsS_52 : decode cX8_readsS 52 = .ok (.aload_n 0, 1) := by decide +kernel
theorem dX8_readsS_53 : decode cX8_readsS 53 = .ok (.iconst 1, 1) := by decide +kernel
theorem dX8_readsS_54 : decode cX8_readsS 54 = .ok (.iload_n 1, 1) := by decide +kernel
theorem dX8_readsS_55 : decode cX8_readsS 55 = .ok (.iconst 1, 1) := by decide +kernel
theorem dX8_readsS_56 : decode cX8_readsS 56 = .ok (.iadd, 1) := by decide +kernel
theorem dX8_readsS_57 : decode cX8_readsS 57 = .ok (.invokevirtual 205, 3) := by decide +kernel
theorem dX8_readsS_60 : decode cX8_readsS 60 = .ok (.ifCond .eq 26, 3) := by decide +kernel
theorem dX8_readsS_63 : decode cX8_readsS 63 = .ok (.aload_n 0, 1) := by decide +kernel
theorem dX8_readsS_64 : decode cX8_readsS 64 = .ok (.bipush 32, 2) := by decide +kernel
theorem dX8_readsS_66 : decode cX8_readsS 66 = .ok (.invokevirtual 202, 3) := by decide +kernel
theorem dX8_readsS_69 : decode cX8_readsS 69 = .ok (.ifCond .eq 17, 3) := by decide +kernel
theorem dX8_readsS_72 : decode cX8_readsS 72 = .ok (.aload_n 0, 1) := by decide +kernel
theorem dX8_readsS_73 : decode cX8_readsS 73 = .ok (.iload_n 1, 1) := by decide +kernel
theorem dX8_readsS_74 : decode cX8_readsS 74 = .ok (.iconst 2, 1) := by decide +kernel
theorem dX8_readsS_75 : decode cX8_readsS 75 = .ok (.iadd, 1) := by decide +kernel
theorem dX8_readsS_76 : decode cX8_readsS 76 = .ok (.invokevirtual 221, 3) := by decide +kernel
theorem dX8_readsS_79 : decode cX8_readsS 79 = .ok (.ifCond .eq 7, 3) := by decide +kernel
theorem dX8_readsS_82 : decode cX8_readsS 82 = .ok (.iconst 1, 1) := by decide +kernel
theorem dX8_readsS_83 : decode cX8_readsS 83 = .ok (.goto 4, 3) := by decide +kernel
theorem dX8_readsS_86 : decode cX8_readsS 86 = .ok (.iconst 0, 1) := by decide +kernel
theorem dX8_readsS_87 : decode cX8_readsS 87 = .ok (.ireturn, 1) := by decide +kernel
theorem dX8_readsHour_0 : decode cX8_readsHour 0 = .ok (.aload_n 0, 1) := by decide +kernel
theorem dX8_readsHour_1 : decode cX8_readsHour 1 = .ok (.getfield 38, 3) := by decide +kernel
theorem dX8_readsHour_4 : decode cX8_readsHour 4 = .ok (.iload_n 1, 1) := by decide +kernel
theorem dX8_readsHour_5 : decode cX8_readsHour 5 = .ok (.iconst 1, 1) := by decide +kernel
theorem dX8_readsHour_6 : decode cX8_readsHour 6 = .ok (.iadd, 1) := by decide +kernel
theorem dX8_readsHour_7 : decode cX8_readsHour 7 = .ok (.iconst 1, 1) := by decide +kernel
theorem dX8_readsHour_8 : decode cX8_readsHour 8 = .ok (.iastore, 1) := by decide +kernel
theorem dX8_readsHour_9 : decode cX8_readsHour 9 = .ok (.aload_n 0, 1) := by decide +kernel
theorem dX8_readsHour_10 : decode cX8_readsHour 10 = .ok (.ldc 230, 2) := by decide +kernel
theorem dX8_readsHour_12 : decode cX8_readsHour 12 = .ok (.invokevirtual 210, 3) := by decide +kernel
theorem dX8_readsHour_15 : decode cX8_readsHour 15 = .ok (.ifCond .eq 27, 3) := by decide +kernel
theorem dX8_readsHour_18 : decode cX8_readsHour 18 = .ok (.aload_n 0, 1) := by decide +kernel
theorem dX8_readsHour_19 : decode cX8_readsHour 19 = .ok (.bipush 32, 2) := by decide +kernel
theorem dX8_readsHour_21 : decode cX8_readsHour 21 = .ok (.invokevirtual 202, 3) := by decide +kernel
theorem dX8_readsHour_24 : decode cX8_readsHour 24 = .ok (.ifCond .eq 14, 3) := by decide +kernel
theorem dX8_readsHour_27 : decode cX8_readsHour 27 = .ok (.aload_n 0, 1) := by decide +kernel
theorem dX8_readsHour_28 : decode cX8_readsHour 28 = .ok (.iconst 2, 1) := by decide +kernel
theorem dX8_readsHour_29 : decode cX8_readsHour 29 = .ok (.iload_n 1, 1) := by decide +kernel
theorem dX8_readsHour_30 : decode cX8_readsHour 30 = .ok (.iconst 1, 1) := by decide +kernel
theorem dX8_readsHour_31 : decode cX8_readsHour 31 = .ok (.iadd, 1) := by decide +kernel
theorem dX8_readsHour_32 : decode cX8_readsHour 32 = .ok (.invokevirtual 205, 3) := by decide +kernel
theorem dX8_readsHour_35 : decode cX8_readsHour 35 = .ok (.ifCond .eq 7, 3) := by decide +kernel
theorem dX8_readsHour_38 : decode cX8_readsHour 38 = .ok (.iconst 1, 1) := by decide +kernel
theorem dX8_readsHour_39 : decode cX8_readsHour 39 = .ok (.goto 4, 3) := by decide +kernel
theorem dX8_readsHour_42 : decode cX8_readsHour 42 = .ok (.iconst 0, 1) := by decide +kernel
theorem dX8_readsHour_43 : decode cX8_readsHour 43 = .ok (.ireturn, 1) := by decide +kernel
theorem dX8_readsRest_0 : decode cX8_readsRest 0 = .ok (.iload_n 1, 1) := by decide +kernel
theorem dX8_readsRest_1 : decode cX8_readsRest 1 = .ok (.lookupswitch 107 #[(98, 61), (100, 49), (115, 55), (116, 43)], 43) := by decide +kernel
theorem dX8_readsRest_44 : decode cX8_readsRest 44 = .ok (.aload_n 0, 1) := by decide +kernel
theorem dX8_readsRest_45 : decode cX8_readsRest 45 = .ok (.iload_n 2, 1) := by decide +kernel
theorem dX8_readsRest_46 : decode cX8_readsRest 46 = .ok (.invokevirtual 232, 3) := by decide +kernel
theorem dX8_readsRest_49 : decode cX8_readsRest 49 = .ok (.ireturn, 1) := by decide +kernel
theorem dX8_readsRest_50 : decode cX8_readsRest 50 = .ok (.aload_n 0, 1) := by decide +kernel
theorem dX8_readsRest_51 : decode cX8_readsRest 51 = .ok (.iload_n 2, 1) := by decide +kernel
theorem dX8_readsRest_52 : decode cX8_readsRest 52 = .ok (.invokevirtual 235, 3) := by decide +kernel
theorem dX8_readsRest_55 : decode cX8_readsRest 55 = .ok (.ireturn, 1) := by decide +kernel
theorem dX8_readsRest_56 : decode cX8_readsRest 56 = .ok (.aload_n 0, 1) := by decide +kernel
theorem dX8_readsRest_57 : decode cX8_readsRest 57 = .ok (.iload_n 2, 1) := by decide +kernel
theorem dX8_readsRest_58 : decode cX8_readsRest 58 = .ok (.invokevirtual 238, 3) := by decide +kernel
theorem dX8_readsRest_61 : decode cX8_readsRest 61 = .ok (.ireturn, 1) := by decide +kernel
theorem dX8_readsRest_62 : decode cX8_readsRest 62 = .ok (.aload_n 0, 1) := by decide +kernel
theorem dX8_readsRest_63 : decode cX8_readsRest 63 = .ok (.ldc 241, 2) := by decide +kernel
theorem dX8_readsRest_65 : decode cX8_readsRest 65 = .ok (.invokevirtual 210, 3) := by decide +kernel
theorem dX8_readsRest_68 : decode cX8_readsRest 68 = .ok (.ifCond .eq 38, 3) := by decide +kernel
theorem dX8_readsRest_71 : decode cX8_readsRest 71 = .ok (.aload_n 0, 1) := by decide +kernel
theorem dX8_readsRest_72 : decode cX8_readsRest 72 = .ok (.iconst 1, 1) := by decide +kernel
theorem dX8_readsRest_73 : decode cX8_readsRest 73 = .ok (.iload_n 2, 1) := by decide +kernel
theorem dX8_readsRest_74 : decode cX8_readsRest 74 = .ok (.iconst 1, 1) := by decide +kernel
theorem dX8_readsRest_75 : decode cX8_readsRest 75 = .ok (.iadd, 1) := by decide +kernel
theorem dX8_readsRest_76 : decode cX8_readsRest 76 = .ok (.invokevirtual 205, 3) := by decide +kernel
theorem dX8_readsRest_79 : decode cX8_readsRest 79 = .ok (.ifCond .eq 27, 3) := by decide +kernel
theorem dX8_readsRest_82 : decode cX8_readsRest 82 = .ok (.aload_n 0, 1) := by decide +kernel
theorem dX8_readsRest_83 : decode cX8_readsRest 83 = .ok (.bipush 32, 2) := by decide +kernel
theorem dX8_readsRest_85 : decode cX8_readsRest 85 = .ok (.invokevirtual 202, 3) := by decide +kernel
theorem dX8_readsRest_88 : decode cX8_readsRest 88 = .ok (.ifCond .eq 18, 3) := by decide +kernel
theorem dX8_readsRest_91 : decode cX8_readsRest 91 = .ok (.aload_n 0, 1) := by decide +kernel
theorem dX8_readsRest_92 : decode cX8_readsRest 92 = .ok (.iconst 1, 1) := by decide +kernel
theorem dX8_readsRest_93 : decode cX8_readsRest 93 = .ok (.iload_n 2, 1) := by decide +kernel
theorem dX8_readsRest_94 : decode cX8_readsRest 94 = .ok (.iconst 2, 1) := by decide +kernel
theorem dX8_readsRest_95 : decode cX8_readsRest 95 = .ok (.iadd, 1) := by decide +kernel
theorem dX8_readsRest_96 : decode cX8_readsRest 96 = .ok (.invokevirtual 205, 3) := by decide +kernel
theorem dX8_readsRest_99 : decode cX8_readsRest 99 = .ok (.ifCond .eq 7, 3) := by decide +kernel
theorem dX8_readsRest_102 : decode cX8_readsRest 102 = .ok (.iconst 1, 1) := by decide +kernel
theorem dX8_readsRest_103 : decode cX8_readsRest 103 = .ok (.goto 4, 3) := by decide +kernel
theorem dX8_readsRest_106 : decode cX8_readsRest 106 = .ok (.iconst 0, 1) := by decide +kernel
theorem dX8_readsRest_107 : decode cX8_readsRest 107 = .ok (.ireturn, 1) := by decide +kernel
theorem dX8_readsRest_108 : decode cX8_readsRest 108 = .ok (.aload_n 0, 1) := by decide +kernel
theorem dX8_readsRest_109 : decode cX8_readsRest 109 = .ok (.iload_n 2, 1) := by decide +kernel
theorem dX8_readsRest_110 : decode cX8_readsRest 110 = .ok (.invokevirtual 243, 3) := by decide +kernel
theorem dX8_readsRest_113 : decode cX8_readsRest 113 = .ok (.ireturn, 1) := by decide +kernel
theorem dX8_isFirst_0 : decode cX8_isFirst 0 = .ok (.iload_n 0, 1) := by decide +kernel
theorem dX8_isFirst_1 : decode cX8_isFirst 1 = .ok (.bipush 116, 2) := by decide +kernel
theorem dX8_isFirst_3 : decode cX8_isFirst 3 = .ok (.if_icmp .eq 27, 3) := by decide +kernel
theorem dX8_isFirst_6 : decode cX8_isFirst 6 = .ok (.iload_n 0, 1) := by decide +kernel
theorem dX8_isFirst_7 : decode cX8_isFirst 7 = .ok (.bipush 100, 2) := by decide +kernel
theorem dX8_isFirst_9 : decode cX8_isFirst 9 = .ok (.if_icmp .eq 21, 3) := by decide +kernel
theorem dX8_isFirst_12 : decode cX8_isFirst 12 = .ok (.iload_n 0, 1) := by decide +kernel
theorem dX8_isFirst_13 : decode cX8_isFirst 13 = .ok (.bipush 115, 2) := by decide +kernel
theorem dX8_isFirst_15 : decode cX8_isFirst 15 = .ok (.if_icmp .eq 15, 3) := by decide +kernel
theorem dX8_isFirst_18 : decode cX8_isFirst 18 = .ok (.iload_n 0, 1) := by decide +kernel
theorem dX8_isFirst_19 : decode cX8_isFirst 19 = .ok (.bipush 98, 2) := by decide +kernel
theorem dX8_isFirst_21 : decode cX8_isFirst 21 = .ok (.if_icmp .eq 9, 3) := by decide +kernel
theorem dX8_isFirst_24 : decode cX8_isFirst 24 = .ok (.iload_n 0, 1) := by decide +kernel
theorem dX8_isFirst_25 : decode cX8_isFirst 25 = .ok (.bipush 104, 2) := by decide +kernel
theorem dX8_isFirst_27 : decode cX8_isFirst 27 = .ok (.if_icmp .ne 7, 3) := by decide +kernel
theorem dX8_isFirst_30 : decode cX8_isFirst 30 = .ok (.iconst 1, 1) := by decide +kernel
theorem dX8_isFirst_31 : decode cX8_isFirst 31 = .ok (.goto 4, 3) := by decide +kernel
theorem dX8_isFirst_34 : decode cX8_isFirst 34 = .ok (.iconst 0, 1) := by decide +kernel
theorem dX8_isFirst_35 : decode cX8_isFirst 35 = .ok (.ireturn, 1) := by decide +kernel
theorem dX8_readsCommand_0 : decode cX8_readsCommand 0 = .ok (.iconst 5, 1) := by decide +kernel
theorem dX8_readsCommand_1 : decode cX8_readsCommand 1 = .ok (.aload_n 0, 1) := by decide +kernel
theorem dX8_readsCommand_2 : decode cX8_readsCommand 2 = .ok (.getfield 246, 3) := by decide +kernel
theorem dX8_readsCommand_5 : decode cX8_readsCommand 5 = .ok (.imul, 1) := by decide +kernel
theorem dX8_readsCommand_6 : decode cX8_readsCommand 6 = .ok (.istore_n 1, 1) := by decide +kernel
theorem dX8_readsCommand_7 : decode cX8_readsCommand 7 = .ok (.aload_n 0, 1) := by decide +kernel
theorem dX8_readsCommand_8 : decode cX8_readsCommand 8 = .ok (.invokevirtual 190, 3) := by decide +kernel
theorem dX8_readsCommand_11 : decode cX8_readsCommand 11 = .ok (.istore_n 2, 1) := by decide +kernel
theorem dX8_readsCommand_12 : decode cX8_readsCommand 12 = .ok (.iload_n 2, 1) := by decide +kernel
theorem dX8_readsCommand_13 : decode cX8_readsCommand 13 = .ok (.invokestatic 249, 3) := by decide +kernel
theorem dX8_readsCommand_16 : decode cX8_readsCommand 16 = .ok (.ifCond .ne 5, 3) := by decide +kernel
theorem dX8_readsCommand_19 : decode cX8_readsCommand 19 = .ok (.iconst 0, 1) := by decide +kernel
theorem dX8_readsCommand_20 : decode cX8_readsCommand 20 = .ok (.ireturn, 1) := by decide +kernel
theorem dX8_readsCommand_21 : decode cX8_readsCommand 21 = .ok (.aload_n 0, 1) := by decide +kernel
theorem dX8_readsCommand_22 : decode cX8_readsCommand 22 = .ok (.getfield 38, 3) := by decide +kernel
theorem dX8_readsCommand_25 : decode cX8_readsCommand 25 = .ok (.iload_n 1, 1) := by decide +kernel
theorem dX8_readsCommand_26 : decode cX8_readsCommand 26 = .ok (.iload_n 2, 1) := by decide +kernel
theorem dX8_readsCommand_27 : decode cX8_readsCommand 27 = .ok (.iastore, 1) := by decide +kernel
theorem dX8_readsCommand_28 : decode cX8_readsCommand 28 = .ok (.aload_n 0, 1) := by decide +kernel
theorem dX8_readsCommand_29 : decode cX8_readsCommand 29 = .ok (.dup, 1) := by decide +kernel
theorem dX8_readsCommand_30 : decode cX8_readsCommand 30 = .ok (.getfield 187, 3) := by decide +kernel
theorem dX8_readsCommand_33 : decode cX8_readsCommand 33 = .ok (.iconst 1, 1) := by decide +kernel
theorem dX8_readsCommand_34 : decode cX8_readsCommand 34 = .ok (.iadd, 1) := by decide +kernel
theorem dX8_readsCommand_35 : decode cX8_readsCommand 35 = .ok (.putfield 187, 3) := by decide +kernel
theorem dX8_readsCommand_38 : decode cX8_readsCommand 38 = .ok (.aload_n 0, 1) := by decide +kernel
theorem dX8_readsCommand_39 : decode cX8_readsCommand 39 = .ok (.dup, 1) := by decide +kernel
theorem dX8_readsCommand_40 : decode cX8_readsCommand 40 = .ok (.getfield 246, 3) := by decide +kernel
theorem dX8_readsCommand_43 : decode cX8_readsCommand 43 = .ok (.iconst 1, 1) := by decide +kernel
theorem dX8_readsCommand_44 : decode cX8_readsCommand 44 = .ok (.iadd, 1) := by decide +kernel
theorem dX8_readsCommand_45 : decode cX8_readsCommand 45 = .ok (.putfield 246, 3) := by decide +kernel
theorem dX8_readsCommand_48 : decode cX8_readsCommand 48 = .ok (.aload_n 0, 1) := by decide +kernel
theorem dX8_readsCommand_49 : decode cX8_readsCommand 49 = .ok (.iload_n 2, 1) := by decide +kernel
theorem dX8_readsCommand_50 : decode cX8_readsCommand 50 = .ok (.iload_n 1, 1) := by decide +kernel
theorem dX8_readsCommand_51 : decode cX8_readsCommand 51 = .ok (.invokevirtual 252, 3) := by decide +kernel
theorem dX8_readsCommand_54 : decode cX8_readsCommand 54 = .ok (.ireturn, 1) := by decide +kernel
theorem dX8_isScript_0 : decode cX8_isScript 0 = .ok (.aload_n 0, 1) := by decide +kernel
theorem dX8_isScript_1 : decode cX8_isScript 1 = .ok (.iconst 0, 1) := by decide +kernel
theorem dX8_isScript_2 : decode cX8_isScript 2 = .ok (.putfield 187, 3) := by decide +kernel
theorem dX8_isScript_5 : decode cX8_isScript 5 = .ok (.aload_n 0, 1) := by decide +kernel
theorem dX8_isScript_6 : decode cX8_isScript 6 = .ok (.iconst 0, 1) := by decide +kernel
theorem dX8_isScript_7 : decode cX8_isScript 7 = .ok (.putfield 246, 3) := by decide +kernel
theorem dX8_isScript_10 : decode cX8_isScript 10 = .ok (.aload_n 0, 1) := by decide +kernel
theorem dX8_isScript_11 : decode cX8_isScript 11 = .ok (.invokevirtual 255, 3) := by decide +kernel
theorem dX8_isScript_14 : decode cX8_isScript 14 = .ok (.istore_n 1, 1) := by decide +kernel
theorem dX8_isScript_15 : decode cX8_isScript 15 = .ok (.iload_n 1, 1) := by decide +kernel
theorem dX8_isScript_16 : decode cX8_isScript 16 = .ok (.ifCond .eq 20, 3) := by decide +kernel
theorem dX8_isScript_19 : decode cX8_isScript 19 = .ok (.aload_n 0, 1) := by decide +kernel
theorem dX8_isScript_20 : decode cX8_isScript 20 = .ok (.bipush 59, 2) := by decide +kernel
theorem dX8_isScript_22 : decode cX8_isScript 22 = .ok (.invokevirtual 202, 3) := by decide +kernel
theorem dX8_isScript_25 : decode cX8_isScript 25 = .ok (.ifCond .eq 11, 3) := by decide +kernel
theorem dX8_isScript_28 : decode cX8_isScript 28 = .ok (.aload_n 0, 1) := by decide +kernel
theorem dX8_isScript_29 : decode cX8_isScript 29 = .ok (.invokevirtual 255, 3) := by decide +kernel
theorem dX8_isScript_32 : decode cX8_isScript 32 = .ok (.istore_n 1, 1) := by decide +kernel
theorem dX8_isScript_33 : decode cX8_isScript 33 = .ok (.goto (-18), 3) := by decide +kernel
theorem dX8_isScript_36 : decode cX8_isScript 36 = .ok (.iload_n 1, 1) := by decide +kernel
theorem dX8_isScript_37 : decode cX8_isScript 37 = .ok (.ifCond .eq 18, 3) := by decide +kernel
theorem dX8_isScript_40 : decode cX8_isScript 40 = .ok (.aload_n 0, 1) := by decide +kernel
theorem dX8_isScript_41 : decode cX8_isScript 41 = .ok (.getfield 187, 3) := by decide +kernel
theorem dX8_isScript_44 : decode cX8_isScript 44 = .ok (.aload_n 0, 1) := by decide +kernel
theorem dX8_isScript_45 : decode cX8_isScript 45 = .ok (.getfield 184, 3) := by decide +kernel
theorem dX8_isScript_48 : decode cX8_isScript 48 = .ok (.if_icmp .ne 7, 3) := by decide +kernel
theorem dX8_isScript_51 : decode cX8_isScript 51 = .ok (.iconst 1, 1) := by decide +kernel
theorem dX8_isScript_52 : decode cX8_isScript 52 = .ok (.goto 4, 3) := by decide +kernel
theorem dX8_isScript_55 : decode cX8_isScript 55 = .ok (.iconst 0, 1) := by decide +kernel
theorem dX8_isScript_56 : decode cX8_isScript 56 = .ok (.ireturn, 1) := by decide +kernel
theorem dX8_does_0 : decode cX8_does 0 = .ok (.aload_n 0, 1) := by decide +kernel
theorem dX8_does_1 : decode cX8_does 1 = .ok (.getfield 38, 3) := by decide +kernel
theorem dX8_does_4 : decode cX8_does 4 = .ok (.iload_n 1, 1) := by decide +kernel
theorem dX8_does_5 : decode cX8_does 5 = .ok (.iconst 1, 1) := by decide +kernel
theorem dX8_does_6 : decode cX8_does 6 = .ok (.iadd, 1) := by decide +kernel
theorem dX8_does_7 : decode cX8_does 7 = .ok (.iaload, 1) := by decide +kernel
theorem dX8_does_8 : decode cX8_does 8 = .ok (.istore_n 2, 1) := by decide +kernel
theorem dX8_does_9 : decode cX8_does 9 = .ok (.aload_n 0, 1) := by decide +kernel
theorem dX8_does_10 : decode cX8_does 10 = .ok (.getfield 38, 3) := by decide +kernel
theorem dX8_does_13 : decode cX8_does 13 = .ok (.iload_n 1, 1) := by decide +kernel
theorem dX8_does_14 : decode cX8_does 14 = .ok (.iconst 2, 1) := by decide +kernel
theorem dX8_does_15 : decode cX8_does 15 = .ok (.iadd, 1) := by decide +kernel
theorem dX8_does_16 : decode cX8_does 16 = .ok (.iaload, 1) := by decide +kernel
theorem dX8_does_17 : decode cX8_does 17 = .ok (.istore_n 3, 1) := by decide +kernel
theorem dX8_does_18 : decode cX8_does 18 = .ok (.aload_n 0, 1) := by decide +kernel
theorem dX8_does_19 : decode cX8_does 19 = .ok (.getfield 38, 3) := by decide +kernel
theorem dX8_does_22 : decode cX8_does 22 = .ok (.iload_n 1, 1) := by decide +kernel
theorem dX8_does_23 : decode cX8_does 23 = .ok (.iconst 3, 1) := by decide +kernel
theorem dX8_does_24 : decode cX8_does 24 = .ok (.iadd, 1) := by decide +kernel
theorem dX8_does_25 : decode cX8_does 25 = .ok (.iaload, 1) := by decide +kernel
theorem dX8_does_26 : decode cX8_does 26 = .ok (.istore 4, 2) := by decide +kernel
theorem dX8_does_28 : decode cX8_does 28 = .ok (.aload_n 0, 1) := by decide +kernel
theorem dX8_does_29 : decode cX8_does 29 = .ok (.getfield 38, 3) := by decide +kernel
theorem dX8_does_32 : decode cX8_does 32 = .ok (.iload_n 1, 1) := by decide +kernel
theorem dX8_does_33 : decode cX8_does 33 = .ok (.iaload, 1) := by decide +kernel
theorem dX8_does_34 : decode cX8_does 34 = .ok (.tableswitch 154 97 116 #[118, 147, 154, 109, 130, 154, 154, 154, 154, 154, 154, 154, 154, 154, 154, 154, 154, 103, 124, 94], 94) := by decide +kernel
theorem dX8_does_128 : decode cX8_does 128 = .ok (.aload_n 0, 1) := by decide +kernel
theorem dX8_does_129 : decode cX8_does 129 = .ok (.iload_n 2, 1) := by decide +kernel
theorem dX8_does_130 : decode cX8_does 130 = .ok (.iload_n 3, 1) := by decide +kernel
theorem dX8_does_131 : decode cX8_does 131 = .ok (.iload 4, 2) := by decide +kernel
theorem dX8_does_133 : decode cX8_does 133 = .ok (.invokevirtual 98, 3) := by decide +kernel
theorem dX8_does_136 : decode cX8_does 136 = .ok (.ireturn, 1) := by decide +kernel
theorem dX8_does_137 : decode cX8_does 137 = .ok (.aload_n 0, 1) := by decide +kernel
theorem dX8_does_138 : decode cX8_does 138 = .ok (.iload_n 2, 1) := by decide +kernel
theorem dX8_does_139 : decode cX8_does 139 = .ok (.invokevirtual 117, 3) := by decide +kernel
theorem dX8_does_142 : decode cX8_does 142 = .ok (.ireturn, 1) := by decide +kernel
theorem dX8_does_143 : decode cX8_does 143 = .ok (.aload_n 0, 1) := by decide +kernel
theorem dX8_does_144 : decode cX8_does 144 = .ok (.iload_n 2, 1) := by decide +kernel
theorem dX8_does_145 : decode cX8_does 145 = .ok (.iload_n 3, 1) := by decide +kernel
theorem dX8_does_146 : decode cX8_does 146 = .ok (.iload 4, 2) := by decide +kernel
theorem dX8_does_148 : decode cX8_does 148 = .ok (.invokevirtual 84, 3) := by decide +kernel
theorem dX8_does_151 : decode cX8_does 151 = .ok (.ireturn, 1) := by decide +kernel
theorem dX8_does_152 : decode cX8_does 152 = .ok (.aload_n 0, 1) := by decide +kernel
theorem dX8_does_153 : decode cX8_does 153 = .ok (.iload_n 2, 1) := by decide +kernel
theorem dX8_does_154 : decode cX8_does 154 = .ok (.invokevirtual 131, 3) := by decide +kernel
theorem dX8_does_157 : decode cX8_does 157 = .ok (.ireturn, 1) := by decide +kernel
theorem dX8_does_158 : decode cX8_does 158 = .ok (.aload_n 0, 1) := by decide +kernel
theorem dX8_does_159 : decode cX8_does 159 = .ok (.iload_n 2, 1) := by decide +kernel
theorem dX8_does_160 : decode cX8_does 160 = .ok (.invokevirtual 124, 3) := by decide +kernel
theorem dX8_does_163 : decode cX8_does 163 = .ok (.ireturn, 1) := by decide +kernel
theorem dX8_does_164 : decode cX8_does 164 = .ok (.aload_n 0, 1) := by decide +kernel
theorem dX8_does_165 : decode cX8_does 165 = .ok (.iload_n 2, 1) := by decide +kernel
theorem dX8_does_166 : decode cX8_does 166 = .ok (.iload_n 3, 1) := by decide +kernel
theorem dX8_does_167 : decode cX8_does 167 = .ok (.iload 4, 2) := by decide +kernel
theorem dX8_does_169 : decode cX8_does 169 = .ok (.aload_n 0, 1) := by decide +kernel
theorem dX8_does_170 : decode cX8_does 170 = .ok (.getfield 38, 3) := by decide +kernel
theorem dX8_does_173 : decode cX8_does 173 = .ok (.iload_n 1, 1) := by decide +kernel
theorem dX8_does_174 : decode cX8_does 174 = .ok (.iconst 4, 1) := by decide +kernel
theorem dX8_does_175 : decode cX8_does 175 = .ok (.iadd, 1) := by decide +kernel
theorem dX8_does_176 : decode cX8_does 176 = .ok (.iaload, 1) := by decide +kernel
theorem dX8_does_177 : decode cX8_does 177 = .ok (.invokevirtual 127, 3) := by decide +kernel
theorem dX8_does_180 : decode cX8_does 180 = .ok (.ireturn, 1) := by decide +kernel
theorem dX8_does_181 : decode cX8_does 181 = .ok (.aload_n 0, 1) := by decide +kernel
theorem dX8_does_182 : decode cX8_does 182 = .ok (.iload_n 2, 1) := by decide +kernel
theorem dX8_does_183 : decode cX8_does 183 = .ok (.iload_n 3, 1) := by decide +kernel
theorem dX8_does_184 : decode cX8_does 184 = .ok (.invokevirtual 143, 3) := by decide +kernel
theorem dX8_does_187 : decode cX8_does 187 = .ok (.ireturn, 1) := by decide +kernel
theorem dX8_does_188 : decode cX8_does 188 = .ok (.aload_n 0, 1) := by decide +kernel
theorem dX8_does_189 : decode cX8_does 189 = .ok (.iload_n 2, 1) := by decide +kernel
theorem dX8_does_190 : decode cX8_does 190 = .ok (.invokevirtual 156, 3) := by decide +kernel
theorem dX8_does_193 : decode cX8_does 193 = .ok (.ireturn, 1) := by decide +kernel
theorem dX8_runScript_0 : decode cX8_runScript 0 = .ok (.aload_n 0, 1) := by decide +kernel
theorem dX8_runScript_1 : decode cX8_runScript 1 = .ok (.invokevirtual 259, 3) := by decide +kernel
theorem dX8_runScript_4 : decode cX8_runScript 4 = .ok (.istore_n 1, 1) := by decide +kernel
theorem dX8_runScript_5 : decode cX8_runScript 5 = .ok (.aload_n 0, 1) := by decide +kernel
theorem dX8_runScript_6 : decode cX8_runScript 6 = .ok (.iconst 0, 1) := by decide +kernel
theorem dX8_runScript_7 : decode cX8_runScript 7 = .ok (.putfield 184, 3) := by decide +kernel
theorem dX8_runScript_10 : decode cX8_runScript 10 = .ok (.aload_n 0, 1) := by decide +kernel
theorem dX8_runScript_11 : decode cX8_runScript 11 = .ok (.iload_n 1, 1) := by decide +kernel
theorem dX8_runScript_12 : decode cX8_runScript 12 = .ok (.ifCond .ne 7, 3) := by decide +kernel
theorem dX8_runScript_15 : decode cX8_runScript 15 = .ok (.iconst 1, 1) := by decide +kernel
theorem dX8_runScript_16 : decode cX8_runScript 16 = .ok (.goto 4, 3) := by decide +kernel
theorem dX8_runScript_19 : decode cX8_runScript 19 = .ok (.iconst 0, 1) := by decide +kernel
theorem dX8_runScript_20 : decode cX8_runScript 20 = .ok (.iconst 1, 1) := by decide +kernel
theorem dX8_runScript_21 : decode cX8_runScript 21 = .ok (.invokevirtual 73, 3) := by decide +kernel
theorem dX8_runScript_24 : decode cX8_runScript 24 = .ok (.ifCond .eq 13, 3) := by decide +kernel
theorem dX8_runScript_27 : decode cX8_runScript 27 = .ok (.aload_n 0, 1) := by decide +kernel
theorem dX8_runScript_28 : decode cX8_runScript 28 = .ok (.aload_n 0, 1) := by decide +kernel
theorem dX8_runScript_29 : decode cX8_runScript 29 = .ok (.getfield 187, 3) := by decide +kernel
theorem dX8_runScript_32 : decode cX8_runScript 32 = .ok (.putfield 25, 3) := by decide +kernel
theorem dX8_runScript_35 : decode cX8_runScript 35 = .ok (.iconst 0, 1) := by decide +kernel
theorem dX8_runScript_36 : decode cX8_runScript 36 = .ok (.ireturn, 1) := by decide +kernel
theorem dX8_runScript_37 : decode cX8_runScript 37 = .ok (.aload_n 0, 1) := by decide +kernel
theorem dX8_runScript_38 : decode cX8_runScript 38 = .ok (.invokevirtual 81, 3) := by decide +kernel
theorem dX8_runScript_41 : decode cX8_runScript 41 = .ok (.iconst 0, 1) := by decide +kernel
theorem dX8_runScript_42 : decode cX8_runScript 42 = .ok (.istore_n 2, 1) := by decide +kernel
theorem dX8_runScript_43 : decode cX8_runScript 43 = .ok (.iload_n 2, 1) := by decide +kernel
theorem dX8_runScript_44 : decode cX8_runScript 44 = .ok (.aload_n 0, 1) := by decide +kernel
theorem dX8_runScript_45 : decode cX8_runScript 45 = .ok (.getfield 246, 3) := by decide +kernel
theorem dX8_runScript_48 : decode cX8_runScript 48 = .ok (.if_icmp .ge 57, 3) := by decide +kernel
theorem dX8_runScript_51 : decode cX8_runScript 51 = .ok (.aload_n 0, 1) := by decide +kernel
theorem dX8_runScript_52 : decode cX8_runScript 52 = .ok (.iconst 0, 1) := by decide +kernel
theorem dX8_runScript_53 : decode cX8_runScript 53 = .ok (.putfield 41, 3) := by decide +kernel
theorem dX8_runScript_56 : decode cX8_runScript 56 = .ok (.aload_n 0, 1) := by decide +kernel
theorem dX8_runScript_57 : decode cX8_runScript 57 = .ok (.aload_n 0, 1) := by decide +kernel
theorem dX8_runScript_58 : decode cX8_runScript 58 = .ok (.iconst 5, 1) := by decide +kernel
theorem dX8_runScript_59 : decode cX8_runScript 59 = .ok (.iload_n 2, 1) := by decide +kernel
theorem dX8_runScript_60 : decode cX8_runScript 60 = .ok (.imul, 1) := by decide +kernel
theorem dX8_runScript_61 : decode cX8_runScript 61 = .ok (.invokevirtual 262, 3) := by decide +kernel
theorem dX8_runScript_64 : decode cX8_runScript 64 = .ok (.putfield 265, 3) := by decide +kernel
theorem dX8_runScript_67 : decode cX8_runScript 67 = .ok (.aload_n 0, 1) := by decide +kernel
theorem dX8_runScript_68 : decode cX8_runScript 68 = .ok (.getfield 41, 3) := by decide +kernel
theorem dX8_runScript_71 : decode cX8_runScript 71 = .ok (.ifCond .eq 28, 3) := by decide +kernel
theorem dX8_runScript_74 : decode cX8_runScript 74 = .ok (.aload_n 0, 1) := by decide +kernel
theorem dX8_runScript_75 : decode cX8_runScript 75 = .ok (.getfield 13, 3) := by decide +kernel
theorem dX8_runScript_78 : decode cX8_runScript 78 = .ok (.iconst 0, 1) := by decide +kernel
theorem dX8_runScript_79 : decode cX8_runScript 79 = .ok (.aload_n 0, 1) := by decide +kernel
theorem dX8_runScript_80 : decode cX8_runScript 80 = .ok (.getfield 9, 3) := by decide +kernel
theorem dX8_runScript_83 : decode cX8_runScript 83 = .ok (.iconst 0, 1) := by decide +kernel
theorem dX8_runScript_84 : decode cX8_runScript 84 = .ok (.invokestatic 44, 3) := by decide +kernel
theorem dX8_runScript_87 : decode cX8_runScript 87 = .ok (.aload_n 0, 1) := by decide +kernel
theorem dX8_runScript_88 : decode cX8_runScript 88 = .ok (.iload_n 2, 1) := by decide +kernel
theorem dX8_runScript_89 : decode cX8_runScript 89 = .ok (.putfield 29, 3) := by decide +kernel
theorem dX8_runScript_92 : decode cX8_runScript 92 = .ok (.aload_n 0, 1) := by decide +kernel
theorem dX8_runScript_93 : decode cX8_runScript 93 = .ok (.iconst 2, 1) := by decide +kernel
theorem dX8_runScript_94 : decode cX8_runScript 94 = .ok (.putfield 41, 3) := by decide +kernel
theorem dX8_runScript_97 : decode cX8_runScript 97 = .ok (.iconst 0, 1) := by decide +kernel
theorem dX8_runScript_98 : decode cX8_runScript 98 = .ok (.ireturn, 1) := by decide +kernel
theorem dX8_runScript_99 : decode cX8_runScript 99 = .ok (.iinc 2 1, 3) := by decide +kernel
theorem dX8_runScript_102 : decode cX8_runScript 102 = .ok (.goto (-59), 3) := by decide +kernel
theorem dX8_runScript_105 : decode cX8_runScript 105 = .ok (.aload_n 0, 1) := by decide +kernel
theorem dX8_runScript_106 : decode cX8_runScript 106 = .ok (.aload_n 0, 1) := by decide +kernel
theorem dX8_runScript_107 : decode cX8_runScript 107 = .ok (.getfield 246, 3) := by decide +kernel
theorem dX8_runScript_110 : decode cX8_runScript 110 = .ok (.invokevirtual 88, 3) := by decide +kernel
theorem dX8_runScript_113 : decode cX8_runScript 113 = .ok (.ireturn, 1) := by decide +kernel
theorem dX8_errorPosition_0 : decode cX8_errorPosition 0 = .ok (.aload_n 0, 1) := by decide +kernel
theorem dX8_errorPosition_1 : decode cX8_errorPosition 1 = .ok (.aload_n 0, 1) := by decide +kernel
theorem dX8_errorPosition_2 : decode cX8_errorPosition 2 = .ok (.getfield 25, 3) := by decide +kernel
theorem dX8_errorPosition_5 : decode cX8_errorPosition 5 = .ok (.ifCond .ge 7, 3) := by decide +kernel
theorem dX8_errorPosition_8 : decode cX8_errorPosition 8 = .ok (.iconst 1, 1) := by decide +kernel
theorem dX8_errorPosition_9 : decode cX8_errorPosition 9 = .ok (.goto 4, 3) := by decide +kernel
theorem dX8_errorPosition_12 : decode cX8_errorPosition 12 = .ok (.iconst 0, 1) := by decide +kernel
theorem dX8_errorPosition_13 : decode cX8_errorPosition 13 = .ok (.iconst 1, 1) := by decide +kernel
theorem dX8_errorPosition_14 : decode cX8_errorPosition 14 = .ok (.invokevirtual 73, 3) := by decide +kernel
theorem dX8_errorPosition_17 : decode cX8_errorPosition 17 = .ok (.ifCond .eq 7, 3) := by decide +kernel
theorem dX8_errorPosition_20 : decode cX8_errorPosition 20 = .ok (.iconst 0, 1) := by decide +kernel
theorem dX8_errorPosition_21 : decode cX8_errorPosition 21 = .ok (.goto 7, 3) := by decide +kernel
theorem dX8_errorPosition_24 : decode cX8_errorPosition 24 = .ok (.aload_n 0, 1) := by decide +kernel
theorem dX8_errorPosition_25 : decode cX8_errorPosition 25 = .ok (.getfield 25, 3) := by decide +kernel
theorem dX8_errorPosition_28 : decode cX8_errorPosition 28 = .ok (.ireturn, 1) := by decide +kernel
theorem dX8_failedCommand_0 : decode cX8_failedCommand 0 = .ok (.aload_n 0, 1) := by decide +kernel
theorem dX8_failedCommand_1 : decode cX8_failedCommand 1 = .ok (.aload_n 0, 1) := by decide +kernel
theorem dX8_failedCommand_2 : decode cX8_failedCommand 2 = .ok (.getfield 29, 3) := by decide +kernel
theorem dX8_failedCommand_5 : decode cX8_failedCommand 5 = .ok (.ifCond .ge 7, 3) := by decide +kernel
theorem dX8_failedCommand_8 : decode cX8_failedCommand 8 = .ok (.iconst 1, 1) := by decide +kernel
theorem dX8_failedCommand_9 : decode cX8_failedCommand 9 = .ok (.goto 4, 3) := by decide +kernel
theorem dX8_failedCommand_12 : decode cX8_failedCommand 12 = .ok (.iconst 0, 1) := by decide +kernel
theorem dX8_failedCommand_13 : decode cX8_failedCommand 13 = .ok (.iconst 1, 1) := by decide +kernel
theorem dX8_failedCommand_14 : decode cX8_failedCommand 14 = .ok (.invokevirtual 73, 3) := by decide +kernel
theorem dX8_failedCommand_17 : decode cX8_failedCommand 17 = .ok (.ifCond .eq 7, 3) := by decide +kernel
theorem dX8_failedCommand_20 : decode cX8_failedCommand 20 = .ok (.iconst 0, 1) := by decide +kernel
theorem dX8_failedCommand_21 : decode cX8_failedCommand 21 = .ok (.goto 7, 3) := by decide +kernel
theorem dX8_failedCommand_24 : decode cX8_failedCommand 24 = .ok (.aload_n 0, 1) := by decide +kernel
theorem dX8_failedCommand_25 : decode cX8_failedCommand 25 = .ok (.getfield 29, 3) := by decide +kernel
theorem dX8_failedCommand_28 : decode cX8_failedCommand 28 = .ok (.ireturn, 1) := by decide +kernel
theorem dX8_undo_0 : decode cX8_undo 0 = .ok (.aload_n 0, 1) := by decide +kernel
theorem dX8_undo_1 : decode cX8_undo 1 = .ok (.aload_n 0, 1) := by decide +kernel
theorem dX8_undo_2 : decode cX8_undo 2 = .ok (.getfield 48, 3) := by decide +kernel
theorem dX8_undo_5 : decode cX8_undo 5 = .ok (.ifCond .ne 7, 3) := by decide +kernel
theorem dX8_undo_8 : decode cX8_undo 8 = .ok (.iconst 1, 1) := by decide +kernel
theorem dX8_undo_9 : decode cX8_undo 9 = .ok (.goto 4, 3) := by decide +kernel
theorem dX8_undo_12 : decode cX8_undo 12 = .ok (.iconst 0, 1) := by decide +kernel
theorem dX8_undo_13 : decode cX8_undo 13 = .ok (.iconst 1, 1) := by decide +kernel
theorem dX8_undo_14 : decode cX8_undo 14 = .ok (.invokevirtual 73, 3) := by decide +kernel
theorem dX8_undo_17 : decode cX8_undo 17 = .ok (.ifCond .eq 5, 3) := by decide +kernel
theorem dX8_undo_20 : decode cX8_undo 20 = .ok (.iconst 0, 1) := by decide +kernel
theorem dX8_undo_21 : decode cX8_undo 21 = .ok (.ireturn, 1) := by decide +kernel
theorem dX8_undo_22 : decode cX8_undo 22 = .ok (.aload_n 0, 1) := by decide +kernel
theorem dX8_undo_23 : decode cX8_undo 23 = .ok (.dup, 1) := by decide +kernel
theorem dX8_undo_24 : decode cX8_undo 24 = .ok (.getfield 48, 3) := by decide +kernel
theorem dX8_undo_27 : decode cX8_undo 27 = .ok (.iconst 1, 1) := by decide +kernel
theorem dX8_undo_28 : decode cX8_undo 28 = .ok (.isub, 1) := by decide +kernel
theorem dX8_undo_29 : decode cX8_undo 29 = .ok (.putfield 48, 3) := by decide +kernel
theorem dX8_undo_32 : decode cX8_undo 32 = .ok (.aload_n 0, 1) := by decide +kernel
theorem dX8_undo_33 : decode cX8_undo 33 = .ok (.getfield 22, 3) := by decide +kernel
theorem dX8_undo_36 : decode cX8_undo 36 = .ok (.bipush 85, 2) := by decide +kernel
theorem dX8_undo_38 : decode cX8_undo 38 = .ok (.aload_n 0, 1) := by decide +kernel
theorem dX8_undo_39 : decode cX8_undo 39 = .ok (.getfield 48, 3) := by decide +kernel
theorem dX8_undo_42 : decode cX8_undo 42 = .ok (.imul, 1) := by decide +kernel
theorem dX8_undo_43 : decode cX8_undo 43 = .ok (.aload_n 0, 1) := by decide +kernel
theorem dX8_undo_44 : decode cX8_undo 44 = .ok (.getfield 9, 3) := by decide +kernel
theorem dX8_undo_47 : decode cX8_undo 47 = .ok (.iconst 0, 1) := by decide +kernel
theorem dX8_undo_48 : decode cX8_undo 48 = .ok (.invokestatic 44, 3) := by decide +kernel
theorem dX8_undo_51 : decode cX8_undo 51 = .ok (.aload_n 0, 1) := by decide +kernel
theorem dX8_undo_52 : decode cX8_undo 52 = .ok (.getfield 48, 3) := by decide +kernel
theorem dX8_undo_55 : decode cX8_undo 55 = .ok (.ireturn, 1) := by decide +kernel
theorem dX8_save_0 : decode cX8_save 0 = .ok (.aload_n 0, 1) := by decide +kernel
theorem dX8_save_1 : decode cX8_save 1 = .ok (.iconst 0, 1) := by decide +kernel
theorem dX8_save_2 : decode cX8_save 2 = .ok (.putfield 41, 3) := by decide +kernel
theorem dX8_save_5 : decode cX8_save 5 = .ok (.aload_n 0, 1) := by decide +kernel
theorem dX8_save_6 : decode cX8_save 6 = .ok (.getfield 9, 3) := by decide +kernel
theorem dX8_save_9 : decode cX8_save 9 = .ok (.iconst 0, 1) := by decide +kernel
theorem dX8_save_10 : decode cX8_save 10 = .ok (.aload_n 0, 1) := by decide +kernel
theorem dX8_save_11 : decode cX8_save 11 = .ok (.getfield 19, 3) := by decide +kernel
theorem dX8_save_14 : decode cX8_save 14 = .ok (.iconst 0, 1) := by decide +kernel
theorem dX8_save_15 : decode cX8_save 15 = .ok (.invokestatic 44, 3) := by decide +kernel
theorem dX8_save_18 : decode cX8_save 18 = .ok (.aload_n 0, 1) := by decide +kernel
theorem dX8_save_19 : decode cX8_save 19 = .ok (.iconst 1, 1) := by decide +kernel
theorem dX8_save_20 : decode cX8_save 20 = .ok (.putfield 268, 3) := by decide +kernel
theorem dX8_save_23 : decode cX8_save 23 = .ok (.aload_n 0, 1) := by decide +kernel
theorem dX8_save_24 : decode cX8_save 24 = .ok (.getfield 9, 3) := by decide +kernel
theorem dX8_save_27 : decode cX8_save 27 = .ok (.iconst 2, 1) := by decide +kernel
theorem dX8_save_28 : decode cX8_save 28 = .ok (.iaload, 1) := by decide +kernel
theorem dX8_save_29 : decode cX8_save 29 = .ok (.ireturn, 1) := by decide +kernel
theorem dX8_restore_0 : decode cX8_restore 0 = .ok (.aload_n 0, 1) := by decide +kernel
theorem dX8_restore_1 : decode cX8_restore 1 = .ok (.aload_n 0, 1) := by decide +kernel
theorem dX8_restore_2 : decode cX8_restore 2 = .ok (.getfield 268, 3) := by decide +kernel
theorem dX8_restore_5 : decode cX8_restore 5 = .ok (.ifCond .ne 7, 3) := by decide +kernel
theorem dX8_restore_8 : decode cX8_restore 8 = .ok (.iconst 1, 1) := by decide +kernel
theorem dX8_restore_9 : decode cX8_restore 9 = .ok (.goto 4, 3) := by decide +kernel
theorem dX8_restore_12 : decode cX8_restore 12 = .ok (.iconst 0, 1) := by decide +kernel
theorem dX8_restore_13 : decode cX8_restore 13 = .ok (.iconst 1, 1) := by decide +kernel
theorem dX8_restore_14 : decode cX8_restore 14 = .ok (.invokevirtual 73, 3) := by decide +kernel
theorem dX8_restore_17 : decode cX8_restore 17 = .ok (.ifCond .eq 5, 3) := by decide +kernel
theorem dX8_restore_20 : decode cX8_restore 20 = .ok (.iconst 0, 1) := by decide +kernel
theorem dX8_restore_21 : decode cX8_restore 21 = .ok (.ireturn, 1) := by decide +kernel
theorem dX8_restore_22 : decode cX8_restore 22 = .ok (.aload_n 0, 1) := by decide +kernel
theorem dX8_restore_23 : decode cX8_restore 23 = .ok (.getfield 19, 3) := by decide +kernel
theorem dX8_restore_26 : decode cX8_restore 26 = .ok (.iconst 0, 1) := by decide +kernel
theorem dX8_restore_27 : decode cX8_restore 27 = .ok (.aload_n 0, 1) := by decide +kernel
theorem dX8_restore_28 : decode cX8_restore 28 = .ok (.getfield 9, 3) := by decide +kernel
theorem dX8_restore_31 : decode cX8_restore 31 = .ok (.iconst 0, 1) := by decide +kernel
theorem dX8_restore_32 : decode cX8_restore 32 = .ok (.invokestatic 44, 3) := by decide +kernel
theorem dX8_restore_35 : decode cX8_restore 35 = .ok (.aload_n 0, 1) := by decide +kernel
theorem dX8_restore_36 : decode cX8_restore 36 = .ok (.iconst 0, 1) := by decide +kernel
theorem dX8_restore_37 : decode cX8_restore 37 = .ok (.putfield 48, 3) := by decide +kernel
theorem dX8_restore_40 : decode cX8_restore 40 = .ok (.aload_n 0, 1) := by decide +kernel
theorem dX8_restore_41 : decode cX8_restore 41 = .ok (.getfield 9, 3) := by decide +kernel
theorem dX8_restore_44 : decode cX8_restore 44 = .ok (.iconst 2, 1) := by decide +kernel
theorem dX8_restore_45 : decode cX8_restore 45 = .ok (.iaload, 1) := by decide +kernel
theorem dX8_restore_46 : decode cX8_restore 46 = .ok (.ireturn, 1) := by decide +kernel
theorem dJ5_init_d00df_0 : decode cJ5_init_d00df 0 = .ok (.aload_n 0, 1) := by decide +kernel
theorem dJ5_init_d00df_1 : decode cJ5_init_d00df 1 = .ok (.invokespecial 3, 3) := by decide +kernel
theorem dJ5_init_d00df_4 : decode cJ5_init_d00df 4 = .ok (.getstatic 18, 3) := by decide +kernel
theorem dJ5_init_d00df_7 : decode cJ5_init_d00df 7 = .ok (.ifCond .eq 18, 3) := by decide +kernel
theorem dJ5_init_d00df_10 : decode cJ5_init_d00df 10 = .ok (.aload_n 0, 1) := by decide +kernel
theorem dJ5_init_d00df_11 : decode cJ5_init_d00df 11 = .ok (.iload_n 1, 1) := by decide +kernel
theorem dJ5_init_d00df_12 : decode cJ5_init_d00df 12 = .ok (.newarray .byte, 2) := by decide +kernel
theorem dJ5_init_d00df_14 : decode cJ5_init_d00df 14 = .ok (.putfield 15, 3) := by decide +kernel
theorem dJ5_init_d00df_17 : decode cJ5_init_d00df 17 = .ok (.aload_n 0, 1) := by decide +kernel
theorem dJ5_init_d00df_18 : decode cJ5_init_d00df 18 = .ok (.iconst 0, 1) := by decide +kernel
theorem dJ5_init_d00df_19 : decode cJ5_init_d00df 19 = .ok (.putfield 22, 3) := by decide +kernel
theorem dJ5_init_d00df_22 : decode cJ5_init_d00df 22 = .ok (.goto 16, 3) := by decide +kernel
theorem dJ5_init_d00df_25 : decode cJ5_init_d00df 25 = .ok (.aload_n 0, 1) := by decide +kernel
theorem dJ5_init_d00df_26 : decode cJ5_init_d00df 26 = .ok (.iload_n 1, 1) := by decide +kernel
theorem dJ5_init_d00df_27 : decode cJ5_init_d00df 27 = .ok (.invokestatic 26, 3) := by decide +kernel
theorem dJ5_init_d00df_30 : decode cJ5_init_d00df 30 = .ok (.putfield 15, 3) := by decide +kernel
theorem dJ5_init_d00df_33 : decode cJ5_init_d00df 33 = .ok (.aload_n 0, 1) := by decide +kernel
theorem dJ5_init_d00df_34 : decode cJ5_init_d00df 34 = .ok (.iconst 1, 1) := by decide +kernel
theorem dJ5_init_d00df_35 : decode cJ5_init_d00df 35 = .ok (.putfield 22, 3) := by decide +kernel
theorem dJ5_init_d00df_38 : decode cJ5_init_d00df 38 = .ok (.return_, 1) := by decide +kernel
theorem dJ5_length_8abf5_0 : decode cJ5_length_8abf5 0 = .ok (.aload_n 0, 1) := by decide +kernel
theorem dJ5_length_8abf5_1 : decode cJ5_length_8abf5 1 = .ok (.getfield 79, 3) := by decide +kernel
theorem dJ5_length_8abf5_4 : decode cJ5_length_8abf5 4 = .ok (.ireturn, 1) := by decide +kernel
theorem dJ5_ensureCapacityInternal_d00df_0 : decode cJ5_ensureCapacityInternal_d00df 0 = .ok (.aload_n 0, 1) := by decide +kernel
theorem dJ5_ensureCapacityInternal_d00df_1 : decode cJ5_ensureCapacityInternal_d00df 1 = .ok (.getfield 15, 3) := by decide +kernel
theorem dJ5_ensureCapacityInternal_d00df_4 : decode cJ5_ensureCapacityInternal_d00df 4 = .ok (.arraylength, 1) := by decide +kernel
theorem dJ5_ensureCapacityInternal_d00df_5 : decode cJ5_ensureCapacityInternal_d00df 5 = .ok (.aload_n 0, 1) := by decide +kernel
theorem dJ5_ensureCapacityInternal_d00df_6 : decode cJ5_ensureCapacityInternal_d00df 6 = .ok (.getfield 22, 3) := by decide +kernel
theorem dJ5_ensureCapacityInternal_d00df_9 : decode cJ5_ensureCapacityInternal_d00df 9 = .ok (.ishr, 1) := by decide +kernel
theorem dJ5_ensureCapacityInternal_d00df_10 : decode cJ5_ensureCapacityInternal_d00df 10 = .ok (.istore_n 2, 1) := by decide +kernel
theorem dJ5_ensureCapacityInternal_d00df_11 : decode cJ5_ensureCapacityInternal_d00df 11 = .ok (.iload_n 1, 1) := by decide +kernel
theorem dJ5_ensureCapacityInternal_d00df_12 : decode cJ5_ensureCapacityInternal_d00df 12 = .ok (.iload_n 2, 1) := by decide +kernel
theorem dJ5_ensureCapacityInternal_d00df_13 : decode cJ5_ensureCapacityInternal_d00df 13 = .ok (.isub, 1) := by decide +kernel
theorem dJ5_ensureCapacityInternal_d00df_14 : decode cJ5_ensureCapacityInternal_d00df 14 = .ok (.ifCond .le 24, 3) := by decide +kernel
theorem dJ5_ensureCapacityInternal_d00df_17 : decode cJ5_ensureCapacityInternal_d00df 17 = .ok (.aload_n 0, 1) := by decide +kernel
theorem dJ5_ensureCapacityInternal_d00df_18 : decode cJ5_ensureCapacityInternal_d00df 18 = .ok (.aload_n 0, 1) := by decide +kernel
theorem dJ5_ensureCapacityInternal_d00df_19 : decode cJ5_ensureCapacityInternal_d00df 19 = .ok (.getfield 15, 3) := by decide +kernel
theorem dJ5_ensureCapacityInternal_d00df_22 : decode cJ5_ensureCapacityInternal_d00df 22 = .ok (.aload_n 0, 1) := by decide +kernel
theorem dJ5_ensureCapacityInternal_d00df_23 : decode cJ5_ensureCapacityInternal_d00df 23 = .ok (.iload_n 1, 1) := by decide +kernel
theorem dJ5_ensureCapacityInternal_d00df_24 : decode cJ5_ensureCapacityInternal_d00df 24 = .ok (.invokevirtual 104, 3) := by decide +kernel
theorem dJ5_ensureCapacityInternal_d00df_27 : decode cJ5_ensureCapacityInternal_d00df 27 = .ok (.aload_n 0, 1) := by decide +kernel
theorem dJ5_ensureCapacityInternal_d00df_28 : decode cJ5_ensureCapacityInternal_d00df 28 = .ok (.getfield 22, 3) := by decide +kernel
theorem dJ5_ensureCapacityInternal_d00df_31 : decode cJ5_ensureCapacityInternal_d00df 31 = .ok (.ishl, 1) := by decide +kernel
theorem dJ5_ensureCapacityInternal_d00df_32 : decode cJ5_ensureCapacityInternal_d00df 32 = .ok (.invokestatic 108, 3) := by decide +kernel
theorem dJ5_ensureCapacityInternal_d00df_35 : decode cJ5_ensureCapacityInternal_d00df 35 = .ok (.putfield 15, 3) := by decide +kernel
theorem dJ5_ensureCapacityInternal_d00df_38 : decode cJ5_ensureCapacityInternal_d00df 38 = .ok (.return_, 1) := by decide +kernel
theorem dJ5_newCapacity_0f7a4_0 : decode cJ5_newCapacity_0f7a4 0 = .ok (.aload_n 0, 1) := by decide +kernel
theorem dJ5_newCapacity_0f7a4_1 : decode cJ5_newCapacity_0f7a4 1 = .ok (.getfield 15, 3) := by decide +kernel
theorem dJ5_newCapacity_0f7a4_4 : decode cJ5_newCapacity_0f7a4 4 = .ok (.arraylength, 1) := by decide +kernel
theorem dJ5_newCapacity_0f7a4_5 : decode cJ5_newCapacity_0f7a4 5 = .ok (.istore_n 2, 1) := by decide +kernel
theorem dJ5_newCapacity_0f7a4_6 : decode cJ5_newCapacity_0f7a4 6 = .ok (.iload_n 1, 1) := by decide +kernel
theorem dJ5_newCapacity_0f7a4_7 : decode cJ5_newCapacity_0f7a4 7 = .ok (.aload_n 0, 1) := by decide +kernel
theorem dJ5_newCapacity_0f7a4_8 : decode cJ5_newCapacity_0f7a4 8 = .ok (.getfield 22, 3) := by decide +kernel
theorem dJ5_newCapacity_0f7a4_11 : decode cJ5_newCapacity_0f7a4 11 = .ok (.ishl, 1) := by decide +kernel
theorem dJ5_newCapacity_0f7a4_12 : decode cJ5_newCapacity_0f7a4 12 = .ok (.istore_n 3, 1) := by decide +kernel
theorem dJ5_newCapacity_0f7a4_13 : decode cJ5_newCapacity_0f7a4 13 = .ok (.iload_n 3, 1) := by decide +kernel
theorem dJ5_newCapacity_0f7a4_14 : decode cJ5_newCapacity_0f7a4 14 = .ok (.iload_n 2, 1) := by decide +kernel
theorem dJ5_newCapacity_0f7a4_15 : decode cJ5_newCapacity_0f7a4 15 = .ok (.isub, 1) := by decide +kernel
theorem dJ5_newCapacity_0f7a4_16 : decode cJ5_newCapacity_0f7a4 16 = .ok (.istore 4, 2) := by decide +kernel
theorem dJ5_newCapacity_0f7a4_18 : decode cJ5_newCapacity_0f7a4 18 = .ok (.iload_n 2, 1) := by decide +kernel
theorem dJ5_newCapacity_0f7a4_19 : decode cJ5_newCapacity_0f7a4 19 = .ok (.iload 4, 2) := by decide +kernel
theorem dJ5_newCapacity_0f7a4_21 : decode cJ5_newCapacity_0f7a4 21 = .ok (.iload_n 2, 1) := by decide +kernel
theorem dJ5_newCapacity_0f7a4_22 : decode cJ5_newCapacity_0f7a4 22 = .ok (.iconst 2, 1) := by decide +kernel
theorem dJ5_newCapacity_0f7a4_23 : decode cJ5_newCapacity_0f7a4 23 = .ok (.aload_n 0, 1) := by decide +kernel
theorem dJ5_newCapacity_0f7a4_24 : decode cJ5_newCapacity_0f7a4 24 = .ok (.getfield 22, 3) := by decide +kernel
theorem dJ5_newCapacity_0f7a4_27 : decode cJ5_newCapacity_0f7a4 27 = .ok (.ishl, 1) := by decide +kernel
theorem dJ5_newCapacity_0f7a4_28 : decode cJ5_newCapacity_0f7a4 28 = .ok (.iadd, 1) := by decide +kernel
theorem dJ5_newCapacity_0f7a4_29 : decode cJ5_newCapacity_0f7a4 29 = .ok (.invokestatic 114, 3) := by decide +kernel
theorem dJ5_newCapacity_0f7a4_32 : decode cJ5_newCapacity_0f7a4 32 = .ok (.istore 5, 2) := by decide +kernel
theorem dJ5_newCapacity_0f7a4_34 : decode cJ5_newCapacity_0f7a4 34 = .ok (.iload 5, 2) := by decide +kernel
theorem dJ5_newCapacity_0f7a4_36 : decode cJ5_newCapacity_0f7a4 36 = .ok (.ldc 39, 2) := by decide +kernel
theorem dJ5_newCapacity_0f7a4_38 : decode cJ5_newCapacity_0f7a4 38 = .ok (.if_icmp .ne 13, 3) := by decide +kernel
theorem dJ5_newCapacity_0f7a4_41 : decode cJ5_newCapacity_0f7a4 41 = .ok (.new 120, 3) := by decide +kernel
theorem dJ5_newCapacity_0f7a4_44 : decode cJ5_newCapacity_0f7a4 44 = .ok (.dup, 1) := by decide +kernel
theorem dJ5_newCapacity_0f7a4_45 : decode cJ5_newCapacity_0f7a4 45 = .ok (.ldc 122, 2) := by decide +kernel
theorem dJ5_newCapacity_0f7a4_47 : decode cJ5_newCapacity_0f7a4 47 = .ok (.invokespecial 124, 3) := by decide +kernel
theorem dJ5_newCapacity_0f7a4_50 : decode cJ5_newCapacity_0f7a4 50 = .ok (.athrow, 1) := by decide +kernel
theorem dJ5_newCapacity_0f7a4_51 : decode cJ5_newCapacity_0f7a4 51 = .ok (.iload 5, 2) := by decide +kernel
theorem dJ5_newCapacity_0f7a4_53 : decode cJ5_newCapacity_0f7a4 53 = .ok (.aload_n 0, 1) := by decide +kernel
theorem dJ5_newCapacity_0f7a4_54 : decode cJ5_newCapacity_0f7a4 54 = .ok (.getfield 22, 3) := by decide +kernel
theorem dJ5_newCapacity_0f7a4_57 : decode cJ5_newCapacity_0f7a4 57 = .ok (.ishr, 1) := by decide +kernel
theorem dJ5_newCapacity_0f7a4_58 : decode cJ5_newCapacity_0f7a4 58 = .ok (.ireturn, 1) := by decide +kernel
theorem dJ5_inflate_da8c8_0 : decode cJ5_inflate_da8c8 0 = .ok (.aload_n 0, 1) := by decide +kernel
theorem dJ5_inflate_da8c8_1 : decode cJ5_inflate_da8c8 1 = .ok (.invokevirtual 83, 3) := by decide +kernel
theorem dJ5_inflate_da8c8_4 : decode cJ5_inflate_da8c8 4 = .ok (.ifCond .ne 4, 3) := by decide +kernel
theorem dJ5_inflate_da8c8_7 : decode cJ5_inflate_da8c8 7 = .ok (.return_, 1) := by decide +kernel
theorem dJ5_inflate_da8c8_8 : decode cJ5_inflate_da8c8 8 = .ok (.aload_n 0, 1) := by decide +kernel
theorem dJ5_inflate_da8c8_9 : decode cJ5_inflate_da8c8 9 = .ok (.getfield 15, 3) := by decide +kernel
theorem dJ5_inflate_da8c8_12 : decode cJ5_inflate_da8c8 12 = .ok (.arraylength, 1) := by decide +kernel
theorem dJ5_inflate_da8c8_13 : decode cJ5_inflate_da8c8 13 = .ok (.invokestatic 26, 3) := by decide +kernel
theorem dJ5_inflate_da8c8_16 : decode cJ5_inflate_da8c8 16 = .ok (.astore_n 1, 1) := by decide +kernel
theorem dJ5_inflate_da8c8_17 : decode cJ5_inflate_da8c8 17 = .ok (.aload_n 0, 1) := by decide +kernel
theorem dJ5_inflate_da8c8_18 : decode cJ5_inflate_da8c8 18 = .ok (.getfield 15, 3) := by decide +kernel
theorem dJ5_inflate_da8c8_21 : decode cJ5_inflate_da8c8 21 = .ok (.iconst 0, 1) := by decide +kernel
theorem dJ5_inflate_da8c8_22 : decode cJ5_inflate_da8c8 22 = .ok (.aload_n 1, 1) := by decide +kernel
theorem dJ5_inflate_da8c8_23 : decode cJ5_inflate_da8c8 23 = .ok (.iconst 0, 1) := by decide +kernel
theorem dJ5_inflate_da8c8_24 : decode cJ5_inflate_da8c8 24 = .ok (.aload_n 0, 1) := by decide +kernel
theorem dJ5_inflate_da8c8_25 : decode cJ5_inflate_da8c8 25 = .ok (.getfield 79, 3) := by decide +kernel
theorem dJ5_inflate_da8c8_28 : decode cJ5_inflate_da8c8 28 = .ok (.invokestatic 125, 3) := by decide +kernel
theorem dJ5_inflate_da8c8_31 : decode cJ5_inflate_da8c8 31 = .ok (.aload_n 0, 1) := by decide +kernel
theorem dJ5_inflate_da8c8_32 : decode cJ5_inflate_da8c8 32 = .ok (.aload_n 1, 1) := by decide +kernel
theorem dJ5_inflate_da8c8_33 : decode cJ5_inflate_da8c8 33 = .ok (.putfield 15, 3) := by decide +kernel
theorem dJ5_inflate_da8c8_36 : decode cJ5_inflate_da8c8 36 = .ok (.aload_n 0, 1) := by decide +kernel
theorem dJ5_inflate_da8c8_37 : decode cJ5_inflate_da8c8 37 = .ok (.iconst 1, 1) := by decide +kernel
theorem dJ5_inflate_da8c8_38 : decode cJ5_inflate_da8c8 38 = .ok (.putfield 22, 3) := by decide +kernel
theorem dJ5_inflate_da8c8_41 : decode cJ5_inflate_da8c8 41 = .ok (.return_, 1) := by decide +kernel
theorem dJ5_setLength_d00df_0 : decode cJ5_setLength_d00df 0 = .ok (.iload_n 1, 1) := by decide +kernel
theorem dJ5_setLength_d00df_1 : decode cJ5_setLength_d00df 1 = .ok (.ifCond .ge 12, 3) := by decide +kernel
theorem dJ5_setLength_d00df_4 : decode cJ5_setLength_d00df 4 = .ok (.new 129, 3) := by decide +kernel
theorem dJ5_setLength_d00df_7 : decode cJ5_setLength_d00df 7 = .ok (.dup, 1) := by decide +kernel
theorem dJ5_setLength_d00df_8 : decode cJ5_setLength_d00df 8 = .ok (.iload_n 1, 1) := by decide +kernel
theorem dJ5_setLength_d00df_9 : decode cJ5_setLength_d00df 9 = .ok (.invokespecial 131, 3) := by decide +kernel
theorem dJ5_setLength_d00df_12 : decode cJ5_setLength_d00df 12 = .ok (.athrow, 1) := by decide +kernel
theorem dJ5_setLength_d00df_13 : decode cJ5_setLength_d00df 13 = .ok (.aload_n 0, 1) := by decide +kernel
theorem dJ5_setLength_d00df_14 : decode cJ5_setLength_d00df 14 = .ok (.iload_n 1, 1) := by decide +kernel
theorem dJ5_setLength_d00df_15 : decode cJ5_setLength_d00df 15 = .ok (.invokevirtual 100, 3) := by decide +kernel
theorem dJ5_setLength_d00df_18 : decode cJ5_setLength_d00df 18 = .ok (.aload_n 0, 1) := by decide +kernel
theorem dJ5_setLength_d00df_19 : decode cJ5_setLength_d00df 19 = .ok (.getfield 79, 3) := by decide +kernel
theorem dJ5_setLength_d00df_22 : decode cJ5_setLength_d00df 22 = .ok (.iload_n 1, 1) := by decide +kernel
theorem dJ5_setLength_d00df_23 : decode cJ5_setLength_d00df 23 = .ok (.if_icmp .ge 40, 3) := by decide +kernel
theorem dJ5_setLength_d00df_26 : decode cJ5_setLength_d00df 26 = .ok (.aload_n 0, 1) := by decide +kernel
theorem dJ5_setLength_d00df_27 : decode cJ5_setLength_d00df 27 = .ok (.invokevirtual 83, 3) := by decide +kernel
theorem dJ5_setLength_d00df_30 : decode cJ5_setLength_d00df 30 = .ok (.ifCond .eq 18, 3) := by decide +kernel
theorem dJ5_setLength_d00df_33 : decode cJ5_setLength_d00df 33 = .ok (.aload_n 0, 1) := by decide +kernel
theorem dJ5_setLength_d00df_34 : decode cJ5_setLength_d00df 34 = .ok (.getfield 15, 3) := by decide +kernel
theorem dJ5_setLength_d00df_37 : decode cJ5_setLength_d00df 37 = .ok (.aload_n 0, 1) := by decide +kernel
theorem dJ5_setLength_d00df_38 : decode cJ5_setLength_d00df 38 = .ok (.getfield 79, 3) := by decide +kernel
theorem dJ5_setLength_d00df_41 : decode cJ5_setLength_d00df 41 = .ok (.iload_n 1, 1) := by decide +kernel
theorem dJ5_setLength_d00df_42 : decode cJ5_setLength_d00df 42 = .ok (.invokestatic 133, 3) := by decide +kernel
theorem dJ5_setLength_d00df_45 : decode cJ5_setLength_d00df 45 = .ok (.goto 31, 3) := by decide +kernel
theorem dJ5_setLength_d00df_48 : decode cJ5_setLength_d00df 48 = .ok (.aload_n 0, 1) := by decide +kernel
theorem dJ5_setLength_d00df_49 : decode cJ5_setLength_d00df 49 = .ok (.getfield 15, 3) := by decide +kernel
theorem dJ5_setLength_d00df_52 : decode cJ5_setLength_d00df 52 = .ok (.aload_n 0, 1) := by decide +kernel
theorem dJ5_setLength_d00df_53 : decode cJ5_setLength_d00df 53 = .ok (.getfield 79, 3) := by decide +kernel
theorem dJ5_setLength_d00df_56 : decode cJ5_setLength_d00df 56 = .ok (.iload_n 1, 1) := by decide +kernel
theorem dJ5_setLength_d00df_57 : decode cJ5_setLength_d00df 57 = .ok (.invokestatic 137, 3) := by decide +kernel
theorem dJ5_setLength_d00df_60 : decode cJ5_setLength_d00df 60 = .ok (.goto 16, 3) := by decide +kernel
theorem dJ5_setLength_d00df_63 : decode cJ5_setLength_d00df 63 = .ok (.aload_n 0, 1) := by decide +kernel
theorem dJ5_setLength_d00df_64 : decode cJ5_setLength_d00df 64 = .ok (.getfield 79, 3) := by decide +kernel
theorem dJ5_setLength_d00df_67 : decode cJ5_setLength_d00df 67 = .ok (.iload_n 1, 1) := by decide +kernel
theorem dJ5_setLength_d00df_68 : decode cJ5_setLength_d00df 68 = .ok (.if_icmp .le 8, 3) := by decide +kernel
theorem dJ5_setLength_d00df_71 : decode cJ5_setLength_d00df 71 = .ok (.aload_n 0, 1) := by decide +kernel
theorem dJ5_setLength_d00df_72 : decode cJ5_setLength_d00df 72 = .ok (.iconst 1, 1) := by decide +kernel
theorem dJ5_setLength_d00df_73 : decode cJ5_setLength_d00df 73 = .ok (.putfield 73, 3) := by decide +kernel
theorem dJ5_setLength_d00df_76 : decode cJ5_setLength_d00df 76 = .ok (.aload_n 0, 1) := by decide +kernel
theorem dJ5_setLength_d00df_77 : decode cJ5_setLength_d00df 77 = .ok (.iload_n 1, 1) := by decide +kernel
theorem dJ5_setLength_d00df_78 : decode cJ5_setLength_d00df 78 = .ok (.putfield 79, 3) := by decide +kernel
theorem dJ5_setLength_d00df_81 : decode cJ5_setLength_d00df 81 = .ok (.return_, 1) := by decide +kernel
theorem dJ5_charAt_5068e_0 : decode cJ5_charAt_5068e 0 = .ok (.aload_n 0, 1) := by decide +kernel
theorem dJ5_charAt_5068e_1 : decode cJ5_charAt_5068e 1 = .ok (.getfield 22, 3) := by decide +kernel
theorem dJ5_charAt_5068e_4 : decode cJ5_charAt_5068e 4 = .ok (.istore_n 2, 1) := by decide +kernel
theorem dJ5_charAt_5068e_5 : decode cJ5_charAt_5068e 5 = .ok (.aload_n 0, 1) := by decide +kernel
theorem dJ5_charAt_5068e_6 : decode cJ5_charAt_5068e 6 = .ok (.getfield 15, 3) := by decide +kernel
theorem dJ5_charAt_5068e_9 : decode cJ5_charAt_5068e 9 = .ok (.astore_n 3, 1) := by decide +kernel
theorem dJ5_charAt_5068e_10 : decode cJ5_charAt_5068e 10 = .ok (.aload_n 0, 1) := by decide +kernel
theorem dJ5_charAt_5068e_11 : decode cJ5_charAt_5068e 11 = .ok (.getfield 79, 3) := by decide +kernel
theorem dJ5_charAt_5068e_14 : decode cJ5_charAt_5068e 14 = .ok (.aload_n 3, 1) := by decide +kernel
theorem dJ5_charAt_5068e_15 : decode cJ5_charAt_5068e 15 = .ok (.arraylength, 1) := by decide +kernel
theorem dJ5_charAt_5068e_16 : decode cJ5_charAt_5068e 16 = .ok (.iload_n 2, 1) := by decide +kernel
theorem dJ5_charAt_5068e_17 : decode cJ5_charAt_5068e 17 = .ok (.ishr, 1) := by decide +kernel
theorem dJ5_charAt_5068e_18 : decode cJ5_charAt_5068e 18 = .ok (.invokestatic 138, 3) := by decide +kernel
theorem dJ5_charAt_5068e_21 : decode cJ5_charAt_5068e 21 = .ok (.istore 4, 2) := by decide +kernel
theorem dJ5_charAt_5068e_23 : decode cJ5_charAt_5068e 23 = .ok (.iload_n 1, 1) := by decide +kernel
theorem dJ5_charAt_5068e_24 : decode cJ5_charAt_5068e 24 = .ok (.iload 4, 2) := by decide +kernel
theorem dJ5_charAt_5068e_26 : decode cJ5_charAt_5068e 26 = .ok (.invokestatic 144, 3) := by decide +kernel
theorem dJ5_charAt_5068e_29 : decode cJ5_charAt_5068e 29 = .ok (.iload_n 2, 1) := by decide +kernel
theorem dJ5_charAt_5068e_30 : decode cJ5_charAt_5068e 30 = .ok (.ifCond .ne 12, 3) := by decide +kernel
theorem dJ5_charAt_5068e_33 : decode cJ5_charAt_5068e 33 = .ok (.aload_n 3, 1) := by decide +kernel
theorem dJ5_charAt_5068e_34 : decode cJ5_charAt_5068e 34 = .ok (.iload_n 1, 1) := by decide +kernel
theorem dJ5_charAt_5068e_35 : decode cJ5_charAt_5068e 35 = .ok (.baload, 1) := by decide +kernel
theorem dJ5_charAt_5068e_36 : decode cJ5_charAt_5068e 36 = .ok (.sipush 255, 3) := by decide +kernel
theorem dJ5_charAt_5068e_39 : decode cJ5_charAt_5068e 39 = .ok (.iand, 1) := by decide +kernel
theorem dJ5_charAt_5068e_40 : decode cJ5_charAt_5068e 40 = .ok (.i2c, 1) := by decide +kernel
theorem dJ5_charAt_5068e_41 : decode cJ5_charAt_5068e 41 = .ok (.ireturn, 1) := by decide +kernel
theorem dJ5_charAt_5068e_42 : decode cJ5_charAt_5068e 42 = .ok (.aload_n 3, 1) := by decide +kernel
theorem dJ5_charAt_5068e_43 : decode cJ5_charAt_5068e 43 = .ok (.iload_n 1, 1) := by decide +kernel
theorem dJ5_charAt_5068e_44 : decode cJ5_charAt_5068e 44 = .ok (.invokestatic 148, 3) := by decide +kernel
theorem dJ5_charAt_5068e_47 : decode cJ5_charAt_5068e 47 = .ok (.ireturn, 1) := by decide +kernel
theorem dJ5_append_cf1ce_0 : decode cJ5_append_cf1ce 0 = .ok (.aload_n 1, 1) := by decide +kernel
theorem dJ5_append_cf1ce_1 : decode cJ5_append_cf1ce 1 = .ok (.ifnonnull 8, 3) := by decide +kernel
theorem dJ5_append_cf1ce_4 : decode cJ5_append_cf1ce 4 = .ok (.aload_n 0, 1) := by decide +kernel
theorem dJ5_append_cf1ce_5 : decode cJ5_append_cf1ce 5 = .ok (.invokevirtual 204, 3) := by decide +kernel
theorem dJ5_append_cf1ce_8 : decode cJ5_append_cf1ce 8 = .ok (.areturn, 1) := by decide +kernel
theorem dJ5_append_cf1ce_9 : decode cJ5_append_cf1ce 9 = .ok (.aload_n 1, 1) := by decide +kernel
theorem dJ5_append_cf1ce_10 : decode cJ5_append_cf1ce 10 = .ok (.invokevirtual 32, 3) := by decide +kernel
theorem dJ5_append_cf1ce_13 : decode cJ5_append_cf1ce 13 = .ok (.istore_n 2, 1) := by decide +kernel
theorem dJ5_append_cf1ce_14 : decode cJ5_append_cf1ce 14 = .ok (.aload_n 0, 1) := by decide +kernel
theorem dJ5_append_cf1ce_15 : decode cJ5_append_cf1ce 15 = .ok (.aload_n 0, 1) := by decide +kernel
theorem dJ5_append_cf1ce_16 : decode cJ5_append_cf1ce 16 = .ok (.getfield 79, 3) := by decide +kernel
theorem dJ5_append_cf1ce_19 : decode cJ5_append_cf1ce 19 = .ok (.iload_n 2, 1) := by decide +kernel
theorem dJ5_append_cf1ce_20 : decode cJ5_append_cf1ce 20 = .ok (.iadd, 1) := by decide +kernel
theorem dJ5_append_cf1ce_21 : decode cJ5_append_cf1ce 21 = .ok (.invokevirtual 100, 3) := by decide +kernel
theorem dJ5_append_cf1ce_24 : decode cJ5_append_cf1ce 24 = .ok (.aload_n 0, 1) := by decide +kernel
theorem dJ5_append_cf1ce_25 : decode cJ5_append_cf1ce 25 = .ok (.aload_n 0, 1) := by decide +kernel
theorem dJ5_append_cf1ce_26 : decode cJ5_append_cf1ce 26 = .ok (.getfield 79, 3) := by decide +kernel
theorem dJ5_append_cf1ce_29 : decode cJ5_append_cf1ce 29 = .ok (.aload_n 1, 1) := by decide +kernel
theorem dJ5_append_cf1ce_30 : decode cJ5_append_cf1ce 30 = .ok (.invokevirtual 208, 3) := by decide +kernel
theorem dJ5_append_cf1ce_33 : decode cJ5_append_cf1ce 33 = .ok (.aload_n 0, 1) := by decide +kernel
theorem dJ5_append_cf1ce_34 : decode cJ5_append_cf1ce 34 = .ok (.dup, 1) := by decide +kernel
theorem dJ5_append_cf1ce_35 : decode cJ5_append_cf1ce 35 = .ok (.getfield 79, 3) := by decide +kernel
theorem dJ5_append_cf1ce_38 : decode cJ5_append_cf1ce 38 = .ok (.iload_n 2, 1) := by decide +kernel
theorem dJ5_append_cf1ce_39 : decode cJ5_append_cf1ce 39 = .ok (.iadd, 1) := by decide +kernel
theorem dJ5_append_cf1ce_40 : decode cJ5_append_cf1ce 40 = .ok (.putfield 79, 3) := by decide +kernel
theorem dJ5_append_cf1ce_43 : decode cJ5_append_cf1ce 43 = .ok (.aload_n 0, 1) := by decide +kernel
theorem dJ5_append_cf1ce_44 : decode cJ5_append_cf1ce 44 = .ok (.areturn, 1) := by decide +kernel
theorem dJ5_appendNull_278bc_0 : decode cJ5_appendNull_278bc 0 = .ok (.aload_n 0, 1) := by decide +kernel
theorem dJ5_appendNull_278bc_1 : decode cJ5_appendNull_278bc 1 = .ok (.aload_n 0, 1) := by decide +kernel
theorem dJ5_appendNull_278bc_2 : decode cJ5_appendNull_278bc 2 = .ok (.getfield 79, 3) := by decide +kernel
theorem dJ5_appendNull_278bc_5 : decode cJ5_appendNull_278bc 5 = .ok (.iconst 4, 1) := by decide +kernel
theorem dJ5_appendNull_278bc_6 : decode cJ5_appendNull_278bc 6 = .ok (.iadd, 1) := by decide +kernel
theorem dJ5_appendNull_278bc_7 : decode cJ5_appendNull_278bc 7 = .ok (.invokevirtual 100, 3) := by decide +kernel
theorem dJ5_appendNull_278bc_10 : decode cJ5_appendNull_278bc 10 = .ok (.aload_n 0, 1) := by decide +kernel
theorem dJ5_appendNull_278bc_11 : decode cJ5_appendNull_278bc 11 = .ok (.getfield 79, 3) := by decide +kernel
theorem dJ5_appendNull_278bc_14 : decode cJ5_appendNull_278bc 14 = .ok (.istore_n 1, 1) := by decide +kernel
theorem dJ5_appendNull_278bc_15 : decode cJ5_appendNull_278bc 15 = .ok (.aload_n 0, 1) := by decide +kernel
theorem dJ5_appendNull_278bc_16 : decode cJ5_appendNull_278bc 16 = .ok (.getfield 15, 3) := by decide +kernel
theorem dJ5_appendNull_278bc_19 : decode cJ5_appendNull_278bc 19 = .ok (.astore_n 2, 1) := by decide +kernel
theorem dJ5_appendNull_278bc_20 : decode cJ5_appendNull_278bc 20 = .ok (.aload_n 0, 1) := by decide +kernel
theorem dJ5_appendNull_278bc_21 : decode cJ5_appendNull_278bc 21 = .ok (.invokevirtual 83, 3) := by decide +kernel
theorem dJ5_appendNull_278bc_24 : decode cJ5_appendNull_278bc 24 = .ok (.ifCond .eq 38, 3) := by decide +kernel
theorem dJ5_appendNull_278bc_27 : decode cJ5_appendNull_278bc 27 = .ok (.aload_n 2, 1) := by decide +kernel
theorem dJ5_appendNull_278bc_28 : decode cJ5_appendNull_278bc 28 = .ok (.iload_n 1, 1) := by decide +kernel
theorem dJ5_appendNull_278bc_29 : decode cJ5_appendNull_278bc 29 = .ok (.iinc 1 1, 3) := by decide +kernel
theorem dJ5_appendNull_278bc_32 : decode cJ5_appendNull_278bc 32 = .ok (.bipush 110, 2) := by decide +kernel
theorem dJ5_appendNull_278bc_34 : decode cJ5_appendNull_278bc 34 = .ok (.bastore, 1) := by decide +kernel
theorem dJ5_appendNull_278bc_35 : decode cJ5_appendNull_278bc 35 = .ok (.aload_n 2, 1) := by decide +kernel
theorem dJ5_appendNull_278bc_36 : decode cJ5_appendNull_278bc 36 = .ok (.iload_n 1, 1) := by decide +kernel
theorem dJ5_appendNull_278bc_37 : decode cJ5_appendNull_278bc 37 = .ok (.iinc 1 1, 3) := by decide +kernel
theorem dJ5_appendNull_278bc_40 : decode cJ5_appendNull_278bc 40 = .ok (.bipush 117, 2) := by decide +kernel
theorem dJ5_appendNull_278bc_42 : decode cJ5_appendNull_278bc 42 = .ok (.bastore, 1) := by decide +kernel
theorem dJ5_appendNull_278bc_43 : decode cJ5_appendNull_278bc 43 = .ok (.aload_n 2, 1) := by decide +kernel
theorem dJ5_appendNull_278bc_44 : decode cJ5_appendNull_278bc 44 = .ok (.iload_n 1, 1) := by decide +kernel
theorem dJ5_appendNull_278bc_45 : decode cJ5_appendNull_278bc 45 = .ok (.iinc 1 1, 3) := by decide +kernel
theorem dJ5_appendNull_278bc_48 : decode cJ5_appendNull_278bc 48 = .ok (.bipush 108, 2) := by decide +kernel
theorem dJ5_appendNull_278bc_50 : decode cJ5_appendNull_278bc 50 = .ok (.bastore, 1) := by decide +kernel
theorem dJ5_appendNull_278bc_51 : decode cJ5_appendNull_278bc 51 = .ok (.aload_n 2, 1) := by decide +kernel
theorem dJ5_appendNull_278bc_52 : decode cJ5_appendNull_278bc 52 = .ok (.iload_n 1, 1) := by decide +kernel
theorem dJ5_appendNull_278bc_53 : decode cJ5_appendNull_278bc 53 = .ok (.iinc 1 1, 3) := by decide +kernel
theorem dJ5_appendNull_278bc_56 : decode cJ5_appendNull_278bc 56 = .ok (.bipush 108, 2) := by decide +kernel
theorem dJ5_appendNull_278bc_58 : decode cJ5_appendNull_278bc 58 = .ok (.bastore, 1) := by decide +kernel
theorem dJ5_appendNull_278bc_59 : decode cJ5_appendNull_278bc 59 = .ok (.goto 17, 3) := by decide +kernel
theorem dJ5_appendNull_278bc_62 : decode cJ5_appendNull_278bc 62 = .ok (.aload_n 2, 1) := by decide +kernel
theorem dJ5_appendNull_278bc_63 : decode cJ5_appendNull_278bc 63 = .ok (.iload_n 1, 1) := by decide +kernel
theorem dJ5_appendNull_278bc_64 : decode cJ5_appendNull_278bc 64 = .ok (.bipush 110, 2) := by decide +kernel
theorem dJ5_appendNull_278bc_66 : decode cJ5_appendNull_278bc 66 = .ok (.bipush 117, 2) := by decide +kernel
theorem dJ5_appendNull_278bc_68 : decode cJ5_appendNull_278bc 68 = .ok (.bipush 108, 2) := by decide +kernel
theorem dJ5_appendNull_278bc_70 : decode cJ5_appendNull_278bc 70 = .ok (.bipush 108, 2) := by decide +kernel
theorem dJ5_appendNull_278bc_72 : decode cJ5_appendNull_278bc 72 = .ok (.invokestatic 226, 3) := by decide +kernel
theorem dJ5_appendNull_278bc_75 : decode cJ5_appendNull_278bc 75 = .ok (.istore_n 1, 1) := by decide +kernel
theorem dJ5_appendNull_278bc_76 : decode cJ5_appendNull_278bc 76 = .ok (.aload_n 0, 1) := by decide +kernel
theorem dJ5_appendNull_278bc_77 : decode cJ5_appendNull_278bc 77 = .ok (.iload_n 1, 1) := by decide +kernel
theorem dJ5_appendNull_278bc_78 : decode cJ5_appendNull_278bc 78 = .ok (.putfield 79, 3) := by decide +kernel
theorem dJ5_appendNull_278bc_81 : decode cJ5_appendNull_278bc 81 = .ok (.aload_n 0, 1) := by decide +kernel
theorem dJ5_appendNull_278bc_82 : decode cJ5_appendNull_278bc 82 = .ok (.areturn, 1) := by decide +kernel
theorem dJ5_append_3fe6f_0 : decode cJ5_append_3fe6f 0 = .ok (.aload_n 0, 1) := by decide +kernel
theorem dJ5_append_3fe6f_1 : decode cJ5_append_3fe6f 1 = .ok (.aload_n 0, 1) := by decide +kernel
theorem dJ5_append_3fe6f_2 : decode cJ5_append_3fe6f 2 = .ok (.getfield 79, 3) := by decide +kernel
theorem dJ5_append_3fe6f_5 : decode cJ5_append_3fe6f 5 = .ok (.iconst 1, 1) := by decide +kernel
theorem dJ5_append_3fe6f_6 : decode cJ5_append_3fe6f 6 = .ok (.iadd, 1) := by decide +kernel
theorem dJ5_append_3fe6f_7 : decode cJ5_append_3fe6f 7 = .ok (.invokevirtual 100, 3) := by decide +kernel
theorem dJ5_append_3fe6f_10 : decode cJ5_append_3fe6f 10 = .ok (.aload_n 0, 1) := by decide +kernel
theorem dJ5_append_3fe6f_11 : decode cJ5_append_3fe6f 11 = .ok (.invokevirtual 83, 3) := by decide +kernel
theorem dJ5_append_3fe6f_14 : decode cJ5_append_3fe6f 14 = .ok (.ifCond .eq 31, 3) := by decide +kernel
theorem dJ5_append_3fe6f_17 : decode cJ5_append_3fe6f 17 = .ok (.iload_n 1, 1) := by decide +kernel
theorem dJ5_append_3fe6f_18 : decode cJ5_append_3fe6f 18 = .ok (.invokestatic 191, 3) := by decide +kernel
theorem dJ5_append_3fe6f_21 : decode cJ5_append_3fe6f 21 = .ok (.ifCond .eq 24, 3) := by decide +kernel
theorem dJ5_append_3fe6f_24 : decode cJ5_append_3fe6f 24 = .ok (.aload_n 0, 1) := by decide +kernel
theorem dJ5_append_3fe6f_25 : decode cJ5_append_3fe6f 25 = .ok (.getfield 15, 3) := by decide +kernel
theorem dJ5_append_3fe6f_28 : decode cJ5_append_3fe6f 28 = .ok (.aload_n 0, 1) := by decide +kernel
theorem dJ5_append_3fe6f_29 : decode cJ5_append_3fe6f 29 = .ok (.dup, 1) := by decide +kernel
theorem dJ5_append_3fe6f_30 : decode cJ5_append_3fe6f 30 = .ok (.getfield 79, 3) := by decide +kernel
theorem dJ5_append_3fe6f_33 : decode cJ5_append_3fe6f 33 = .ok (.dup_x1, 1) := by decide +kernel
theorem dJ5_append_3fe6f_34 : decode cJ5_append_3fe6f 34 = .ok (.iconst 1, 1) := by decide +kernel
theorem dJ5_append_3fe6f_35 : decode cJ5_append_3fe6f 35 = .ok (.iadd, 1) := by decide +kernel
theorem dJ5_append_3fe6f_36 : decode cJ5_append_3fe6f 36 = .ok (.putfield 79, 3) := by decide +kernel
theorem dJ5_append_3fe6f_39 : decode cJ5_append_3fe6f 39 = .ok (.iload_n 1, 1) := by decide +kernel
theorem dJ5_append_3fe6f_40 : decode cJ5_append_3fe6f 40 = .ok (.i2b, 1) := by decide +kernel
theorem dJ5_append_3fe6f_41 : decode cJ5_append_3fe6f 41 = .ok (.bastore, 1) := by decide +kernel
theorem dJ5_append_3fe6f_42 : decode cJ5_append_3fe6f 42 = .ok (.goto 33, 3) := by decide +kernel
theorem dJ5_append_3fe6f_45 : decode cJ5_append_3fe6f 45 = .ok (.aload_n 0, 1) := by decide +kernel
theorem dJ5_append_3fe6f_46 : decode cJ5_append_3fe6f 46 = .ok (.invokevirtual 83, 3) := by decide +kernel
theorem dJ5_append_3fe6f_49 : decode cJ5_append_3fe6f 49 = .ok (.ifCond .eq 7, 3) := by decide +kernel
theorem dJ5_append_3fe6f_52 : decode cJ5_append_3fe6f 52 = .ok (.aload_n 0, 1) := by decide +kernel
theorem dJ5_append_3fe6f_53 : decode cJ5_append_3fe6f 53 = .ok (.invokevirtual 195, 3) := by decide +kernel
theorem dJ5_append_3fe6f_56 : decode cJ5_append_3fe6f 56 = .ok (.aload_n 0, 1) := by decide +kernel
theorem dJ5_append_3fe6f_57 : decode cJ5_append_3fe6f 57 = .ok (.getfield 15, 3) := by decide +kernel
theorem dJ5_append_3fe6f_60 : decode cJ5_append_3fe6f 60 = .ok (.aload_n 0, 1) := by decide +kernel
theorem dJ5_append_3fe6f_61 : decode cJ5_append_3fe6f 61 = .ok (.dup, 1) := by decide +kernel
theorem dJ5_append_3fe6f_62 : decode cJ5_append_3fe6f 62 = .ok (.getfield 79, 3) := by decide +kernel
theorem dJ5_append_3fe6f_65 : decode cJ5_append_3fe6f 65 = .ok (.dup_x1, 1) := by decide +kernel
theorem dJ5_append_3fe6f_66 : decode cJ5_append_3fe6f 66 = .ok (.iconst 1, 1) := by decide +kernel
theorem dJ5_append_3fe6f_67 : decode cJ5_append_3fe6f 67 = .ok (.iadd, 1) := by decide +kernel
theorem dJ5_append_3fe6f_68 : decode cJ5_append_3fe6f 68 = .ok (.putfield 79, 3) := by decide +kernel
theorem dJ5_append_3fe6f_71 : decode cJ5_append_3fe6f 71 = .ok (.iload_n 1, 1) := by decide +kernel
theorem dJ5_append_3fe6f_72 : decode cJ5_append_3fe6f 72 = .ok (.invokestatic 197, 3) := by decide +kernel
theorem dJ5_append_3fe6f_75 : decode cJ5_append_3fe6f 75 = .ok (.aload_n 0, 1) := by decide +kernel
theorem dJ5_append_3fe6f_76 : decode cJ5_append_3fe6f 76 = .ok (.areturn, 1) := by decide +kernel
theorem dJ5_append_c97b9_0 : decode cJ5_append_c97b9 0 = .ok (.aload_n 0, 1) := by decide +kernel
theorem dJ5_append_c97b9_1 : decode cJ5_append_c97b9 1 = .ok (.getfield 79, 3) := by decide +kernel
theorem dJ5_append_c97b9_4 : decode cJ5_append_c97b9 4 = .ok (.istore_n 2, 1) := by decide +kernel
theorem dJ5_append_c97b9_5 : decode cJ5_append_c97b9 5 = .ok (.iload_n 2, 1) := by decide +kernel
theorem dJ5_append_c97b9_6 : decode cJ5_append_c97b9 6 = .ok (.iload_n 1, 1) := by decide +kernel
theorem dJ5_append_c97b9_7 : decode cJ5_append_c97b9 7 = .ok (.invokestatic 245, 3) := by decide +kernel
theorem dJ5_append_c97b9_10 : decode cJ5_append_c97b9 10 = .ok (.iadd, 1) := by decide +kernel
theorem dJ5_append_c97b9_11 : decode cJ5_append_c97b9 11 = .ok (.istore_n 3, 1) := by decide +kernel
theorem dJ5_append_c97b9_12 : decode cJ5_append_c97b9 12 = .ok (.aload_n 0, 1) := by decide +kernel
theorem dJ5_append_c97b9_13 : decode cJ5_append_c97b9 13 = .ok (.iload_n 3, 1) := by decide +kernel
theorem dJ5_append_c97b9_14 : decode cJ5_append_c97b9 14 = .ok (.invokevirtual 100, 3) := by decide +kernel
theorem dJ5_append_c97b9_17 : decode cJ5_append_c97b9 17 = .ok (.aload_n 0, 1) := by decide +kernel
theorem dJ5_append_c97b9_18 : decode cJ5_append_c97b9 18 = .ok (.invokevirtual 83, 3) := by decide +kernel
theorem dJ5_append_c97b9_21 : decode cJ5_append_c97b9 21 = .ok (.ifCond .eq 16, 3) := by decide +kernel
theorem dJ5_append_c97b9_24 : decode cJ5_append_c97b9 24 = .ok (.iload_n 1, 1) := by decide +kernel
theorem dJ5_append_c97b9_25 : decode cJ5_append_c97b9 25 = .ok (.iload_n 3, 1) := by decide +kernel
theorem dJ5_append_c97b9_26 : decode cJ5_append_c97b9 26 = .ok (.aload_n 0, 1) := by decide +kernel
theorem dJ5_append_c97b9_27 : decode cJ5_append_c97b9 27 = .ok (.getfield 15, 3) := by decide +kernel
theorem dJ5_append_c97b9_30 : decode cJ5_append_c97b9 30 = .ok (.invokestatic 248, 3) := by decide +kernel
theorem dJ5_append_c97b9_33 : decode cJ5_append_c97b9 33 = .ok (.pop, 1) := by decide +kernel
theorem dJ5_append_c97b9_34 : decode cJ5_append_c97b9 34 = .ok (.goto 14, 3) := by decide +kernel
theorem dJ5_append_c97b9_37 : decode cJ5_append_c97b9 37 = .ok (.iload_n 1, 1) := by decide +kernel
theorem dJ5_append_c97b9_38 : decode cJ5_append_c97b9 38 = .ok (.iload_n 2, 1) := by decide +kernel
theorem dJ5_append_c97b9_39 : decode cJ5_append_c97b9 39 = .ok (.iload_n 3, 1) := by decide +kernel
theorem dJ5_append_c97b9_40 : decode cJ5_append_c97b9 40 = .ok (.aload_n 0, 1) := by decide +kernel
theorem dJ5_append_c97b9_41 : decode cJ5_append_c97b9 41 = .ok (.getfield 15, 3) := by decide +kernel
theorem dJ5_append_c97b9_44 : decode cJ5_append_c97b9 44 = .ok (.invokestatic 251, 3) := by decide +kernel
theorem dJ5_append_c97b9_47 : decode cJ5_append_c97b9 47 = .ok (.pop, 1) := by decide +kernel
theorem dJ5_append_c97b9_48 : decode cJ5_append_c97b9 48 = .ok (.aload_n 0, 1) := by decide +kernel
theorem dJ5_append_c97b9_49 : decode cJ5_append_c97b9 49 = .ok (.iload_n 3, 1) := by decide +kernel
theorem dJ5_append_c97b9_50 : decode cJ5_append_c97b9 50 = .ok (.putfield 79, 3) := by decide +kernel
theorem dJ5_append_c97b9_53 : decode cJ5_append_c97b9 53 = .ok (.aload_n 0, 1) := by decide +kernel
theorem dJ5_append_c97b9_54 : decode cJ5_append_c97b9 54 = .ok (.areturn, 1) := by decide +kernel
theorem dJ5_getValue_6d5f1_0 : decode cJ5_getValue_6d5f1 0 = .ok (.aload_n 0, 1) := by decide +kernel
theorem dJ5_getValue_6d5f1_1 : decode cJ5_getValue_6d5f1 1 = .ok (.getfield 15, 3) := by decide +kernel
theorem dJ5_getValue_6d5f1_4 : decode cJ5_getValue_6d5f1 4 = .ok (.areturn, 1) := by decide +kernel
theorem dJ5_isLatin1_aae02_0 : decode cJ5_isLatin1_aae02 0 = .ok (.getstatic 18, 3) := by decide +kernel
theorem dJ5_isLatin1_aae02_3 : decode cJ5_isLatin1_aae02 3 = .ok (.ifCond .eq 14, 3) := by decide +kernel
theorem dJ5_isLatin1_aae02_6 : decode cJ5_isLatin1_aae02 6 = .ok (.aload_n 0, 1) := by decide +kernel
theorem dJ5_isLatin1_aae02_7 : decode cJ5_isLatin1_aae02 7 = .ok (.getfield 22, 3) := by decide +kernel
theorem dJ5_isLatin1_aae02_10 : decode cJ5_isLatin1_aae02 10 = .ok (.ifCond .ne 7, 3) := by decide +kernel
theorem dJ5_isLatin1_aae02_13 : decode cJ5_isLatin1_aae02 13 = .ok (.iconst 1, 1) := by decide +kernel
theorem dJ5_isLatin1_aae02_14 : decode cJ5_isLatin1_aae02 14 = .ok (.goto 4, 3) := by decide +kernel
theorem dJ5_isLatin1_aae02_17 : decode cJ5_isLatin1_aae02 17 = .ok (.iconst 0, 1) := by decide +kernel
theorem dJ5_isLatin1_aae02_18 : decode cJ5_isLatin1_aae02 18 = .ok (.ireturn, 1) := by decide +kernel
theorem dJ5_inflateIfNeededFor_a7421_0 : decode cJ5_inflateIfNeededFor_a7421 0 = .ok (.getstatic 18, 3) := by decide +kernel
theorem dJ5_inflateIfNeededFor_a7421_3 : decode cJ5_inflateIfNeededFor_a7421 3 = .ok (.ifCond .eq 18, 3) := by decide +kernel
theorem dJ5_inflateIfNeededFor_a7421_6 : decode cJ5_inflateIfNeededFor_a7421 6 = .ok (.aload_n 0, 1) := by decide +kernel
theorem dJ5_inflateIfNeededFor_a7421_7 : decode cJ5_inflateIfNeededFor_a7421 7 = .ok (.getfield 22, 3) := by decide +kernel
theorem dJ5_inflateIfNeededFor_a7421_10 : decode cJ5_inflateIfNeededFor_a7421 10 = .ok (.aload_n 1, 1) := by decide +kernel
theorem dJ5_inflateIfNeededFor_a7421_11 : decode cJ5_inflateIfNeededFor_a7421 11 = .ok (.invokevirtual 40, 3) := by decide +kernel
theorem dJ5_inflateIfNeededFor_a7421_14 : decode cJ5_inflateIfNeededFor_a7421 14 = .ok (.if_icmp .eq 7, 3) := by decide +kernel
theorem dJ5_inflateIfNeededFor_a7421_17 : decode cJ5_inflateIfNeededFor_a7421 17 = .ok (.aload_n 0, 1) := by decide +kernel
theorem dJ5_inflateIfNeededFor_a7421_18 : decode cJ5_inflateIfNeededFor_a7421 18 = .ok (.invokevirtual 195, 3) := by decide +kernel
theorem dJ5_inflateIfNeededFor_a7421_21 : decode cJ5_inflateIfNeededFor_a7421 21 = .ok (.return_, 1) := by decide +kernel
theorem dJ5_putStringAt_47b60_0 : decode cJ5_putStringAt_47b60 0 = .ok (.aload_n 0, 1) := by decide +kernel
theorem dJ5_putStringAt_47b60_1 : decode cJ5_putStringAt_47b60 1 = .ok (.aload_n 2, 1) := by decide +kernel
theorem dJ5_putStringAt_47b60_2 : decode cJ5_putStringAt_47b60 2 = .ok (.invokevirtual 397, 3) := by decide +kernel
theorem dJ5_putStringAt_47b60_5 : decode cJ5_putStringAt_47b60 5 = .ok (.aload_n 2, 1) := by decide +kernel
theorem dJ5_putStringAt_47b60_6 : decode cJ5_putStringAt_47b60 6 = .ok (.aload_n 0, 1) := by decide +kernel
theorem dJ5_putStringAt_47b60_7 : decode cJ5_putStringAt_47b60 7 = .ok (.getfield 15, 3) := by decide +kernel
theorem dJ5_putStringAt_47b60_10 : decode cJ5_putStringAt_47b60 10 = .ok (.iload_n 1, 1) := by decide +kernel
theorem dJ5_putStringAt_47b60_11 : decode cJ5_putStringAt_47b60 11 = .ok (.aload_n 0, 1) := by decide +kernel
theorem dJ5_putStringAt_47b60_12 : decode cJ5_putStringAt_47b60 12 = .ok (.getfield 22, 3) := by decide +kernel
theorem dJ5_putStringAt_47b60_15 : decode cJ5_putStringAt_47b60 15 = .ok (.invokevirtual 399, 3) := by decide +kernel
theorem dJ5_putStringAt_47b60_18 : decode cJ5_putStringAt_47b60 18 = .ok (.return_, 1) := by decide +kernel
theorem dJx00060_init_a7421_0 : decode cJx00060_init_a7421 0 = .ok (.aload_n 0, 1) := by decide +kernel
theorem dJx00060_init_a7421_1 : decode cJx00060_init_a7421 1 = .ok (.aload_n 1, 1) := by decide +kernel
theorem dJx00060_init_a7421_2 : decode cJx00060_init_a7421 2 = .ok (.invokespecial 7, 3) := by decide +kernel
theorem dJx00060_init_a7421_5 : decode cJx00060_init_a7421 5 = .ok (.return_, 1) := by decide +kernel
theorem dJx00060_init_d00df_0 : decode cJx00060_init_d00df 0 = .ok (.aload_n 0, 1) := by decide +kernel
theorem dJx00060_init_d00df_1 : decode cJx00060_init_d00df 1 = .ok (.new 10, 3) := by decide +kernel
theorem dJx00060_init_d00df_4 : decode cJx00060_init_d00df 4 = .ok (.dup, 1) := by decide +kernel
theorem dJx00060_init_d00df_5 : decode cJx00060_init_d00df 5 = .ok (.invokespecial 12, 3) := by decide +kernel
theorem dJx00060_init_d00df_8 : decode cJx00060_init_d00df 8 = .ok (.ldc 13, 2) := by decide +kernel
theorem dJx00060_init_d00df_10 : decode cJx00060_init_d00df 10 = .ok (.invokevirtual 15, 3) := by decide +kernel
theorem dJx00060_init_d00df_13 : decode cJx00060_init_d00df 13 = .ok (.iload_n 1, 1) := by decide +kernel
theorem dJx00060_init_d00df_14 : decode cJx00060_init_d00df 14 = .ok (.invokevirtual 19, 3) := by decide +kernel
theorem dJx00060_init_d00df_17 : decode cJx00060_init_d00df 17 = .ok (.invokevirtual 22, 3) := by decide +kernel
theorem dJx00060_init_d00df_20 : decode cJx00060_init_d00df 20 = .ok (.invokespecial 7, 3) := by decide +kernel
theorem dJx00060_init_d00df_23 : decode cJx00060_init_d00df 23 = .ok (.return_, 1) := by decide +kernel
theorem dJx29ce0_ordinal_8abf5_0 : decode cJx29ce0_ordinal_8abf5 0 = .ok (.aload_n 0, 1) := by decide +kernel
theorem dJx29ce0_ordinal_8abf5_1 : decode cJx29ce0_ordinal_8abf5 1 = .ok (.getfield 7, 3) := by decide +kernel
theorem dJx29ce0_ordinal_8abf5_4 : decode cJx29ce0_ordinal_8abf5 4 = .ok (.ireturn, 1) := by decide +kernel
theorem dJ6_getChars_ba4f3_0 : decode cJ6_getChars_ba4f3 0 = .ok (.iload_n 1, 1) := by decide +kernel
theorem dJ6_getChars_ba4f3_1 : decode cJ6_getChars_ba4f3 1 = .ok (.istore 5, 2) := by decide +kernel
theorem dJ6_getChars_ba4f3_3 : decode cJ6_getChars_ba4f3 3 = .ok (.iload_n 0, 1) := by decide +kernel
theorem dJ6_getChars_ba4f3_4 : decode cJ6_getChars_ba4f3 4 = .ok (.ifCond .ge 7, 3) := by decide +kernel
theorem dJ6_getChars_ba4f3_7 : decode cJ6_getChars_ba4f3 7 = .ok (.iconst 1, 1) := by decide +kernel
theorem dJ6_getChars_ba4f3_8 : decode cJ6_getChars_ba4f3 8 = .ok (.goto 4, 3) := by decide +kernel
theorem dJ6_getChars_ba4f3_11 : decode cJ6_getChars_ba4f3 11 = .ok (.iconst 0, 1) := by decide +kernel
theorem dJ6_getChars_ba4f3_12 : decode cJ6_getChars_ba4f3 12 = .ok (.istore 6, 2) := by decide +kernel
theorem dJ6_getChars_ba4f3_14 : decode cJ6_getChars_ba4f3 14 = .ok (.iload 6, 2) := by decide +kernel
theorem dJ6_getChars_ba4f3_16 : decode cJ6_getChars_ba4f3 16 = .ok (.ifCond .ne 6, 3) := by decide +kernel
theorem dJ6_getChars_ba4f3_19 : decode cJ6_getChars_ba4f3 19 = .ok (.iload_n 0, 1) := by decide +kernel
theorem dJ6_getChars_ba4f3_20 : decode cJ6_getChars_ba4f3 20 = .ok (.ineg, 1) := by decide +kernel
theorem dJ6_getChars_ba4f3_21 : decode cJ6_getChars_ba4f3 21 = .ok (.istore_n 0, 1) := by decide +kernel
theorem dJ6_getChars_ba4f3_22 : decode cJ6_getChars_ba4f3 22 = .ok (.iload_n 0, 1) := by decide +kernel
theorem dJ6_getChars_ba4f3_23 : decode cJ6_getChars_ba4f3 23 = .ok (.bipush (-100), 2) := by decide +kernel
theorem dJ6_getChars_ba4f3_25 : decode cJ6_getChars_ba4f3 25 = .ok (.if_icmp .gt 47, 3) := by decide +kernel
theorem dJ6_getChars_ba4f3_28 : decode cJ6_getChars_ba4f3 28 = .ok (.iload_n 0, 1) := by decide +kernel
theorem dJ6_getChars_ba4f3_29 : decode cJ6_getChars_ba4f3 29 = .ok (.bipush 100, 2) := by decide +kernel
theorem dJ6_getChars_ba4f3_31 : decode cJ6_getChars_ba4f3 31 = .ok (.idiv, 1) := by decide +kernel
theorem dJ6_getChars_ba4f3_32 : decode cJ6_getChars_ba4f3 32 = .ok (.istore_n 3, 1) := by decide +kernel
theorem dJ6_getChars_ba4f3_33 : decode cJ6_getChars_ba4f3 33 = .ok (.iload_n 3, 1) := by decide +kernel
theorem dJ6_getChars_ba4f3_34 : decode cJ6_getChars_ba4f3 34 = .ok (.bipush 100, 2) := by decide +kernel
theorem dJ6_getChars_ba4f3_36 : decode cJ6_getChars_ba4f3 36 = .ok (.imul, 1) := by decide +kernel
theorem dJ6_getChars_ba4f3_37 : decode cJ6_getChars_ba4f3 37 = .ok (.iload_n 0, 1) := by decide +kernel
theorem dJ6_getChars_ba4f3_38 : decode cJ6_getChars_ba4f3 38 = .ok (.isub, 1) := by decide +kernel
theorem dJ6_getChars_ba4f3_39 : decode cJ6_getChars_ba4f3 39 = .ok (.istore 4, 2) := by decide +kernel
theorem dJ6_getChars_ba4f3_41 : decode cJ6_getChars_ba4f3 41 = .ok (.iload_n 3, 1) := by decide +kernel
theorem dJ6_getChars_ba4f3_42 : decode cJ6_getChars_ba4f3 42 = .ok (.istore_n 0, 1) := by decide +kernel
theorem dJ6_getChars_ba4f3_43 : decode cJ6_getChars_ba4f3 43 = .ok (.aload_n 2, 1) := by decide +kernel
theorem dJ6_getChars_ba4f3_44 : decode cJ6_getChars_ba4f3 44 = .ok (.iinc 5 (-1), 3) := by decide +kernel
theorem dJ6_getChars_ba4f3_47 : decode cJ6_getChars_ba4f3 47 = .ok (.iload 5, 2) := by decide +kernel
theorem dJ6_getChars_ba4f3_49 : decode cJ6_getChars_ba4f3 49 = .ok (.getstatic 83, 3) := by decide +kernel
theorem dJ6_getChars_ba4f3_52 : decode cJ6_getChars_ba4f3 52 = .ok (.iload 4, 2) := by decide +kernel
theorem dJ6_getChars_ba4f3_54 : decode cJ6_getChars_ba4f3 54 = .ok (.baload, 1) := by decide +kernel
theorem dJ6_getChars_ba4f3_55 : decode cJ6_getChars_ba4f3 55 = .ok (.bastore, 1) := by decide +kernel
theorem dJ6_getChars_ba4f3_56 : decode cJ6_getChars_ba4f3 56 = .ok (.aload_n 2, 1) := by decide +kernel
theorem dJ6_getChars_ba4f3_57 : decode cJ6_getChars_ba4f3 57 = .ok (.iinc 5 (-1), 3) := by decide +kernel
theorem dJ6_getChars_ba4f3_60 : decode cJ6_getChars_ba4f3 60 = .ok (.iload 5, 2) := by decide +kernel
theorem dJ6_getChars_ba4f3_62 : decode cJ6_getChars_ba4f3 62 = .ok (.getstatic 87, 3) := by decide +kernel
theorem dJ6_getChars_ba4f3_65 : decode cJ6_getChars_ba4f3 65 = .ok (.iload 4, 2) := by decide +kernel
theorem dJ6_getChars_ba4f3_67 : decode cJ6_getChars_ba4f3 67 = .ok (.baload, 1) := by decide +kernel
theorem dJ6_getChars_ba4f3_68 : decode cJ6_getChars_ba4f3 68 = .ok (.bastore, 1) := by decide +kernel
theorem dJ6_getChars_ba4f3_69 : decode cJ6_getChars_ba4f3 69 = .ok (.goto (-47), 3) := by decide +kernel
theorem dJ6_getChars_ba4f3_72 : decode cJ6_getChars_ba4f3 72 = .ok (.aload_n 2, 1) := by decide +kernel
theorem dJ6_getChars_ba4f3_73 : decode cJ6_getChars_ba4f3 73 = .ok (.iinc 5 (-1), 3) := by decide +kernel
theorem dJ6_getChars_ba4f3_76 : decode cJ6_getChars_ba4f3 76 = .ok (.iload 5, 2) := by decide +kernel
theorem dJ6_getChars_ba4f3_78 : decode cJ6_getChars_ba4f3 78 = .ok (.getstatic 83, 3) := by decide +kernel
theorem dJ6_getChars_ba4f3_81 : decode cJ6_getChars_ba4f3 81 = .ok (.iload_n 0, 1) := by decide +kernel
theorem dJ6_getChars_ba4f3_82 : decode cJ6_getChars_ba4f3 82 = .ok (.ineg, 1) := by decide +kernel
theorem dJ6_getChars_ba4f3_83 : decode cJ6_getChars_ba4f3 83 = .ok (.baload, 1) := by decide +kernel
theorem dJ6_getChars_ba4f3_84 : decode cJ6_getChars_ba4f3 84 = .ok (.bastore, 1) := by decide +kernel
theorem dJ6_getChars_ba4f3_85 : decode cJ6_getChars_ba4f3 85 = .ok (.iload_n 0, 1) := by decide +kernel
theorem dJ6_getChars_ba4f3_86 : decode cJ6_getChars_ba4f3 86 = .ok (.bipush (-9), 2) := by decide +kernel
theorem dJ6_getChars_ba4f3_88 : decode cJ6_getChars_ba4f3 88 = .ok (.if_icmp .ge 16, 3) := by decide +kernel
theorem dJ6_getChars_ba4f3_91 : decode cJ6_getChars_ba4f3 91 = .ok (.aload_n 2, 1) := by decide +kernel
theorem dJ6_getChars_ba4f3_92 : decode cJ6_getChars_ba4f3 92 = .ok (.iinc 5 (-1), 3) := by decide +kernel
theorem dJ6_getChars_ba4f3_95 : decode cJ6_getChars_ba4f3 95 = .ok (.iload 5, 2) := by decide +kernel
theorem dJ6_getChars_ba4f3_97 : decode cJ6_getChars_ba4f3 97 = .ok (.getstatic 87, 3) := by decide +kernel
theorem dJ6_getChars_ba4f3_100 : decode cJ6_getChars_ba4f3 100 = .ok (.iload_n 0, 1) := by decide +kernel
theorem dJ6_getChars_ba4f3_101 : decode cJ6_getChars_ba4f3 101 = .ok (.ineg, 1) := by decide +kernel
theorem dJ6_getChars_ba4f3_102 : decode cJ6_getChars_ba4f3 102 = .ok (.baload, 1) := by decide +kernel
theorem dJ6_getChars_ba4f3_103 : decode cJ6_getChars_ba4f3 103 = .ok (.bastore, 1) := by decide +kernel
theorem dJ6_getChars_ba4f3_104 : decode cJ6_getChars_ba4f3 104 = .ok (.iload 6, 2) := by decide +kernel
theorem dJ6_getChars_ba4f3_106 : decode cJ6_getChars_ba4f3 106 = .ok (.ifCond .eq 12, 3) := by decide +kernel
theorem dJ6_getChars_ba4f3_109 : decode cJ6_getChars_ba4f3 109 = .ok (.aload_n 2, 1) := by decide +kernel
theorem dJ6_getChars_ba4f3_110 : decode cJ6_getChars_ba4f3 110 = .ok (.iinc 5 (-1), 3) := by decide +kernel
theorem dJ6_getChars_ba4f3_113 : decode cJ6_getChars_ba4f3 113 = .ok (.iload 5, 2) := by decide +kernel
theorem dJ6_getChars_ba4f3_115 : decode cJ6_getChars_ba4f3 115 = .ok (.bipush 45, 2) := by decide +kernel
theorem dJ6_getChars_ba4f3_117 : decode cJ6_getChars_ba4f3 117 = .ok (.bastore, 1) := by decide +kernel
theorem dJ6_getChars_ba4f3_118 : decode cJ6_getChars_ba4f3 118 = .ok (.iload 5, 2) := by decide +kernel
theorem dJ6_getChars_ba4f3_120 : decode cJ6_getChars_ba4f3 120 = .ok (.ireturn, 1) := by decide +kernel
theorem dJ6_stringSize_0f7a4_0 : decode cJ6_stringSize_0f7a4 0 = .ok (.iconst 1, 1) := by decide +kernel
theorem dJ6_stringSize_0f7a4_1 : decode cJ6_stringSize_0f7a4 1 = .ok (.istore_n 1, 1) := by decide +kernel
theorem dJ6_stringSize_0f7a4_2 : decode cJ6_stringSize_0f7a4 2 = .ok (.iload_n 0, 1) := by decide +kernel
theorem dJ6_stringSize_0f7a4_3 : decode cJ6_stringSize_0f7a4 3 = .ok (.ifCond .lt 8, 3) := by decide +kernel
theorem dJ6_stringSize_0f7a4_6 : decode cJ6_stringSize_0f7a4 6 = .ok (.iconst 0, 1) := by decide +kernel
theorem dJ6_stringSize_0f7a4_7 : decode cJ6_stringSize_0f7a4 7 = .ok (.istore_n 1, 1) := by decide +kernel
theorem dJ6_stringSize_0f7a4_8 : decode cJ6_stringSize_0f7a4 8 = .ok (.iload_n 0, 1) := by decide +kernel
theorem dJ6_stringSize_0f7a4_9 : decode cJ6_stringSize_0f7a4 9 = .ok (.ineg, 1) := by decide +kernel
theorem dJ6_stringSize_0f7a4_10 : decode cJ6_stringSize_0f7a4 10 = .ok (.istore_n 0, 1) := by decide +kernel
theorem dJ6_stringSize_0f7a4_11 : decode cJ6_stringSize_0f7a4 11 = .ok (.bipush (-10), 2) := by decide +kernel
theorem dJ6_stringSize_0f7a4_13 : decode cJ6_stringSize_0f7a4 13 = .ok (.istore_n 2, 1) := by decide +kernel
theorem dJ6_stringSize_0f7a4_14 : decode cJ6_stringSize_0f7a4 14 = .ok (.iconst 1, 1) := by decide +kernel
theorem dJ6_stringSize_0f7a4_15 : decode cJ6_stringSize_0f7a4 15 = .ok (.istore_n 3, 1) := by decide +kernel
theorem dJ6_stringSize_0f7a4_16 : decode cJ6_stringSize_0f7a4 16 = .ok (.iload_n 3, 1) := by decide +kernel
theorem dJ6_stringSize_0f7a4_17 : decode cJ6_stringSize_0f7a4 17 = .ok (.bipush 10, 2) := by decide +kernel
theorem dJ6_stringSize_0f7a4_19 : decode cJ6_stringSize_0f7a4 19 = .ok (.if_icmp .ge 23, 3) := by decide +kernel
theorem dJ6_stringSize_0f7a4_22 : decode cJ6_stringSize_0f7a4 22 = .ok (.iload_n 0, 1) := by decide +kernel
theorem dJ6_stringSize_0f7a4_23 : decode cJ6_stringSize_0f7a4 23 = .ok (.iload_n 2, 1) := by decide +kernel
theorem dJ6_stringSize_0f7a4_24 : decode cJ6_stringSize_0f7a4 24 = .ok (.if_icmp .le 7, 3) := by decide +kernel
theorem dJ6_stringSize_0f7a4_27 : decode cJ6_stringSize_0f7a4 27 = .ok (.iload_n 3, 1) := by decide +kernel
theorem dJ6_stringSize_0f7a4_28 : decode cJ6_stringSize_0f7a4 28 = .ok (.iload_n 1, 1) := by decide +kernel
theorem dJ6_stringSize_0f7a4_29 : decode cJ6_stringSize_0f7a4 29 = .ok (.iadd, 1) := by decide +kernel
theorem dJ6_stringSize_0f7a4_30 : decode cJ6_stringSize_0f7a4 30 = .ok (.ireturn, 1) := by decide +kernel
theorem dJ6_stringSize_0f7a4_31 : decode cJ6_stringSize_0f7a4 31 = .ok (.bipush 10, 2) := by decide +kernel
theorem dJ6_stringSize_0f7a4_33 : decode cJ6_stringSize_0f7a4 33 = .ok (.iload_n 2, 1) := by decide +kernel
theorem dJ6_stringSize_0f7a4_34 : decode cJ6_stringSize_0f7a4 34 = .ok (.imul, 1) := by decide +kernel
theorem dJ6_stringSize_0f7a4_35 : decode cJ6_stringSize_0f7a4 35 = .ok (.istore_n 2, 1) := by decide +kernel
theorem dJ6_stringSize_0f7a4_36 : decode cJ6_stringSize_0f7a4 36 = .ok (.iinc 3 1, 3) := by decide +kernel
theorem dJ6_stringSize_0f7a4_39 : decode cJ6_stringSize_0f7a4 39 = .ok (.goto (-23), 3) := by decide +kernel
theorem dJ6_stringSize_0f7a4_42 : decode cJ6_stringSize_0f7a4 42 = .ok (.bipush 10, 2) := by decide +kernel
theorem dJ6_stringSize_0f7a4_44 : decode cJ6_stringSize_0f7a4 44 = .ok (.iload_n 1, 1) := by decide +kernel
theorem dJ6_stringSize_0f7a4_45 : decode cJ6_stringSize_0f7a4 45 = .ok (.iadd, 1) := by decide +kernel
theorem dJ6_stringSize_0f7a4_46 : decode cJ6_stringSize_0f7a4 46 = .ok (.ireturn, 1) := by decide +kernel
theorem dJ9_max_7cf53_0 : decode cJ9_max_7cf53 0 = .ok (.iload_n 0, 1) := by decide +kernel
theorem dJ9_max_7cf53_1 : decode cJ9_max_7cf53 1 = .ok (.iload_n 1, 1) := by decide +kernel
theorem dJ9_max_7cf53_2 : decode cJ9_max_7cf53 2 = .ok (.if_icmp .lt 7, 3) := by decide +kernel
theorem dJ9_max_7cf53_5 : decode cJ9_max_7cf53 5 = .ok (.iload_n 0, 1) := by decide +kernel
theorem dJ9_max_7cf53_6 : decode cJ9_max_7cf53 6 = .ok (.goto 4, 3) := by decide +kernel
theorem dJ9_max_7cf53_9 : decode cJ9_max_7cf53 9 = .ok (.iload_n 1, 1) := by decide +kernel
theorem dJ9_max_7cf53_10 : decode cJ9_max_7cf53 10 = .ok (.ireturn, 1) := by decide +kernel
theorem dJ9_min_7cf53_0 : decode cJ9_min_7cf53 0 = .ok (.iload_n 0, 1) := by decide +kernel
theorem dJ9_min_7cf53_1 : decode cJ9_min_7cf53 1 = .ok (.iload_n 1, 1) := by decide +kernel
theorem dJ9_min_7cf53_2 : decode cJ9_min_7cf53 2 = .ok (.if_icmp .gt 7, 3) := by decide +kernel
theorem dJ9_min_7cf53_5 : decode cJ9_min_7cf53 5 = .ok (.iload_n 0, 1) := by decide +kernel
theorem dJ9_min_7cf53_6 : decode cJ9_min_7cf53 6 = .ok (.goto 4, 3) := by decide +kernel
theorem dJ9_min_7cf53_9 : decode cJ9_min_7cf53 9 = .ok (.iload_n 1, 1) := by decide +kernel
theorem dJ9_min_7cf53_10 : decode cJ9_min_7cf53 10 = .ok (.ireturn, 1) := by decide +kernel
theorem dJ0_init_81219_0 : decode cJ0_init_81219 0 = .ok (.aload_n 0, 1) := by decide +kernel
theorem dJ0_init_81219_1 : decode cJ0_init_81219 1 = .ok (.aload_n 1, 1) := by decide +kernel
theorem dJ0_init_81219_2 : decode cJ0_init_81219 2 = .ok (.aconst_null, 1) := by decide +kernel
theorem dJ0_init_81219_3 : decode cJ0_init_81219 3 = .ok (.invokespecial 489, 3) := by decide +kernel
theorem dJ0_init_81219_6 : decode cJ0_init_81219 6 = .ok (.return_, 1) := by decide +kernel
theorem dJ0_length_8abf5_0 : decode cJ0_length_8abf5 0 = .ok (.aload_n 0, 1) := by decide +kernel
theorem dJ0_length_8abf5_1 : decode cJ0_length_8abf5 1 = .ok (.getfield 9, 3) := by decide +kernel
theorem dJ0_length_8abf5_4 : decode cJ0_length_8abf5 4 = .ok (.arraylength, 1) := by decide +kernel
theorem dJ0_length_8abf5_5 : decode cJ0_length_8abf5 5 = .ok (.aload_n 0, 1) := by decide +kernel
theorem dJ0_length_8abf5_6 : decode cJ0_length_8abf5 6 = .ok (.invokevirtual 335, 3) := by decide +kernel
theorem dJ0_length_8abf5_9 : decode cJ0_length_8abf5 9 = .ok (.ishr, 1) := by decide +kernel
theorem dJ0_length_8abf5_10 : decode cJ0_length_8abf5 10 = .ok (.ireturn, 1) := by decide +kernel
theorem dJ0_charAt_5068e_0 : decode cJ0_charAt_5068e 0 = .ok (.aload_n 0, 1) := by decide +kernel
theorem dJ0_charAt_5068e_1 : decode cJ0_charAt_5068e 1 = .ok (.invokevirtual 492, 3) := by decide +kernel
theorem dJ0_charAt_5068e_4 : decode cJ0_charAt_5068e 4 = .ok (.ifCond .eq 12, 3) := by decide +kernel
theorem dJ0_charAt_5068e_7 : decode cJ0_charAt_5068e 7 = .ok (.aload_n 0, 1) := by decide +kernel
theorem dJ0_charAt_5068e_8 : decode cJ0_charAt_5068e 8 = .ok (.getfield 9, 3) := by decide +kernel
theorem dJ0_charAt_5068e_11 : decode cJ0_charAt_5068e 11 = .ok (.iload_n 1, 1) := by decide +kernel
theorem dJ0_charAt_5068e_12 : decode cJ0_charAt_5068e 12 = .ok (.invokestatic 495, 3) := by decide +kernel
theorem dJ0_charAt_5068e_15 : decode cJ0_charAt_5068e 15 = .ok (.ireturn, 1) := by decide +kernel
theorem dJ0_charAt_5068e_16 : decode cJ0_charAt_5068e 16 = .ok (.aload_n 0, 1) := by decide +kernel
theorem dJ0_charAt_5068e_17 : decode cJ0_charAt_5068e 17 = .ok (.getfield 9, 3) := by decide +kernel
theorem dJ0_charAt_5068e_20 : decode cJ0_charAt_5068e 20 = .ok (.iload_n 1, 1) := by decide +kernel
theorem dJ0_charAt_5068e_21 : decode cJ0_charAt_5068e 21 = .ok (.invokestatic 498, 3) := by decide +kernel
theorem dJ0_charAt_5068e_24 : decode cJ0_charAt_5068e 24 = .ok (.ireturn, 1) := by decide +kernel
theorem dJ0_getBytes_840e7_0 : decode cJ0_getBytes_840e7 0 = .ok (.aload_n 0, 1) := by decide +kernel
theorem dJ0_getBytes_840e7_1 : decode cJ0_getBytes_840e7 1 = .ok (.invokevirtual 335, 3) := by decide +kernel
theorem dJ0_getBytes_840e7_4 : decode cJ0_getBytes_840e7 4 = .ok (.iload_n 3, 1) := by decide +kernel
theorem dJ0_getBytes_840e7_5 : decode cJ0_getBytes_840e7 5 = .ok (.if_icmp .ne 23, 3) := by decide +kernel
theorem dJ0_getBytes_840e7_8 : decode cJ0_getBytes_840e7 8 = .ok (.aload_n 0, 1) := by decide +kernel
theorem dJ0_getBytes_840e7_9 : decode cJ0_getBytes_840e7 9 = .ok (.getfield 9, 3) := by decide +kernel
theorem dJ0_getBytes_840e7_12 : decode cJ0_getBytes_840e7 12 = .ok (.iconst 0, 1) := by decide +kernel
theorem dJ0_getBytes_840e7_13 : decode cJ0_getBytes_840e7 13 = .ok (.aload_n 1, 1) := by decide +kernel
theorem dJ0_getBytes_840e7_14 : decode cJ0_getBytes_840e7 14 = .ok (.iload_n 2, 1) := by decide +kernel
theorem dJ0_getBytes_840e7_15 : decode cJ0_getBytes_840e7 15 = .ok (.iload_n 3, 1) := by decide +kernel
theorem dJ0_getBytes_840e7_16 : decode cJ0_getBytes_840e7 16 = .ok (.ishl, 1) := by decide +kernel
theorem dJ0_getBytes_840e7_17 : decode cJ0_getBytes_840e7 17 = .ok (.aload_n 0, 1) := by decide +kernel
theorem dJ0_getBytes_840e7_18 : decode cJ0_getBytes_840e7 18 = .ok (.getfield 9, 3) := by decide +kernel
theorem dJ0_getBytes_840e7_21 : decode cJ0_getBytes_840e7 21 = .ok (.arraylength, 1) := by decide +kernel
theorem dJ0_getBytes_840e7_22 : decode cJ0_getBytes_840e7 22 = .ok (.invokestatic 212, 3) := by decide +kernel
theorem dJ0_getBytes_840e7_25 : decode cJ0_getBytes_840e7 25 = .ok (.goto 18, 3) := by decide +kernel
theorem dJ0_getBytes_840e7_28 : decode cJ0_getBytes_840e7 28 = .ok (.aload_n 0, 1) := by decide +kernel
theorem dJ0_getBytes_840e7_29 : decode cJ0_getBytes_840e7 29 = .ok (.getfield 9, 3) := by decide +kernel
theorem dJ0_getBytes_840e7_32 : decode cJ0_getBytes_840e7 32 = .ok (.iconst 0, 1) := by decide +kernel
theorem dJ0_getBytes_840e7_33 : decode cJ0_getBytes_840e7 33 = .ok (.aload_n 1, 1) := by decide +kernel
theorem dJ0_getBytes_840e7_34 : decode cJ0_getBytes_840e7 34 = .ok (.iload_n 2, 1) := by decide +kernel
theorem dJ0_getBytes_840e7_35 : decode cJ0_getBytes_840e7 35 = .ok (.aload_n 0, 1) := by decide +kernel
theorem dJ0_getBytes_840e7_36 : decode cJ0_getBytes_840e7 36 = .ok (.getfield 9, 3) := by decide +kernel
theorem dJ0_getBytes_840e7_39 : decode cJ0_getBytes_840e7 39 = .ok (.arraylength, 1) := by decide +kernel
theorem dJ0_getBytes_840e7_40 : decode cJ0_getBytes_840e7 40 = .ok (.invokestatic 106, 3) := by decide +kernel
theorem dJ0_getBytes_840e7_43 : decode cJ0_getBytes_840e7 43 = .ok (.return_, 1) := by decide +kernel
theorem dJ0_init_db425_0 : decode cJ0_init_db425 0 = .ok (.aload_n 0, 1) := by decide +kernel
theorem dJ0_init_db425_1 : decode cJ0_init_db425 1 = .ok (.invokespecial 1, 3) := by decide +kernel
theorem dJ0_init_db425_4 : decode cJ0_init_db425 4 = .ok (.aload_n 1, 1) := by decide +kernel
theorem dJ0_init_db425_5 : decode cJ0_init_db425 5 = .ok (.invokevirtual 552, 3) := by decide +kernel
theorem dJ0_init_db425_8 : decode cJ0_init_db425 8 = .ok (.astore_n 3, 1) := by decide +kernel
theorem dJ0_init_db425_9 : decode cJ0_init_db425 9 = .ok (.aload_n 1, 1) := by decide +kernel
theorem dJ0_init_db425_10 : decode cJ0_init_db425 10 = .ok (.invokevirtual 549, 3) := by decide +kernel
theorem dJ0_init_db425_13 : decode cJ0_init_db425 13 = .ok (.istore 4, 2) := by decide +kernel
theorem dJ0_init_db425_15 : decode cJ0_init_db425 15 = .ok (.aload_n 1, 1) := by decide +kernel
theorem dJ0_init_db425_16 : decode cJ0_init_db425 16 = .ok (.invokevirtual 1047, 3) := by decide +kernel
theorem dJ0_init_db425_19 : decode cJ0_init_db425 19 = .ok (.ifCond .eq 22, 3) := by decide +kernel
theorem dJ0_init_db425_22 : decode cJ0_init_db425 22 = .ok (.aload_n 0, 1) := by decide +kernel
theorem dJ0_init_db425_23 : decode cJ0_init_db425 23 = .ok (.iconst 0, 1) := by decide +kernel
theorem dJ0_init_db425_24 : decode cJ0_init_db425 24 = .ok (.putfield 15, 3) := by decide +kernel
theorem dJ0_init_db425_27 : decode cJ0_init_db425 27 = .ok (.aload_n 0, 1) := by decide +kernel
theorem dJ0_init_db425_28 : decode cJ0_init_db425 28 = .ok (.aload_n 3, 1) := by decide +kernel
theorem dJ0_init_db425_29 : decode cJ0_init_db425 29 = .ok (.iconst 0, 1) := by decide +kernel
theorem dJ0_init_db425_30 : decode cJ0_init_db425 30 = .ok (.iload 4, 2) := by decide +kernel
theorem dJ0_init_db425_32 : decode cJ0_init_db425 32 = .ok (.invokestatic 54, 3) := by decide +kernel
theorem dJ0_init_db425_35 : decode cJ0_init_db425 35 = .ok (.putfield 9, 3) := by decide +kernel
theorem dJ0_init_db425_38 : decode cJ0_init_db425 38 = .ok (.goto 59, 3) := by decide +kernel
theorem dJ0_init_db425_41 : decode cJ0_init_db425 41 = .ok (.getstatic 38, 3) := by decide +kernel
theorem dJ0_init_db425_44 : decode cJ0_init_db425 44 = .ok (.ifCond .eq 35, 3) := by decide +kernel
theorem dJ0_init_db425_47 : decode cJ0_init_db425 47 = .ok (.aload_n 1, 1) := by decide +kernel
theorem dJ0_init_db425_48 : decode cJ0_init_db425 48 = .ok (.getfield 1048, 3) := by decide +kernel
theorem dJ0_init_db425_51 : decode cJ0_init_db425 51 = .ok (.ifCond .eq 28, 3) := by decide +kernel
theorem dJ0_init_db425_54 : decode cJ0_init_db425 54 = .ok (.aload_n 0, 1) := by decide +kernel
theorem dJ0_init_db425_55 : decode cJ0_init_db425 55 = .ok (.aload_n 3, 1) := by decide +kernel
theorem dJ0_init_db425_56 : decode cJ0_init_db425 56 = .ok (.iconst 0, 1) := by decide +kernel
theorem dJ0_init_db425_57 : decode cJ0_init_db425 57 = .ok (.iload 4, 2) := by decide +kernel
theorem dJ0_init_db425_59 : decode cJ0_init_db425 59 = .ok (.invokestatic 1051, 3) := by decide +kernel
theorem dJ0_init_db425_62 : decode cJ0_init_db425 62 = .ok (.putfield 9, 3) := by decide +kernel
theorem dJ0_init_db425_65 : decode cJ0_init_db425 65 = .ok (.aload_n 0, 1) := by decide +kernel
theorem dJ0_init_db425_66 : decode cJ0_init_db425 66 = .ok (.aload_n 0, 1) := by decide +kernel
theorem dJ0_init_db425_67 : decode cJ0_init_db425 67 = .ok (.getfield 9, 3) := by decide +kernel
theorem dJ0_init_db425_70 : decode cJ0_init_db425 70 = .ok (.iload 4, 2) := by decide +kernel
theorem dJ0_init_db425_72 : decode cJ0_init_db425 72 = .ok (.invokestatic 47, 3) := by decide +kernel
theorem dJ0_init_db425_75 : decode cJ0_init_db425 75 = .ok (.putfield 15, 3) := by decide +kernel
theorem dJ0_init_db425_78 : decode cJ0_init_db425 78 = .ok (.return_, 1) := by decide +kernel
theorem dJ0_init_db425_79 : decode cJ0_init_db425 79 = .ok (.aload_n 0, 1) := by decide +kernel
theorem dJ0_init_db425_80 : decode cJ0_init_db425 80 = .ok (.iconst 1, 1) := by decide +kernel
theorem dJ0_init_db425_81 : decode cJ0_init_db425 81 = .ok (.putfield 15, 3) := by decide +kernel
theorem dJ0_init_db425_84 : decode cJ0_init_db425 84 = .ok (.aload_n 0, 1) := by decide +kernel
theorem dJ0_init_db425_85 : decode cJ0_init_db425 85 = .ok (.aload_n 3, 1) := by decide +kernel
theorem dJ0_init_db425_86 : decode cJ0_init_db425 86 = .ok (.iconst 0, 1) := by decide +kernel
theorem dJ0_init_db425_87 : decode cJ0_init_db425 87 = .ok (.iload 4, 2) := by decide +kernel
theorem dJ0_init_db425_89 : decode cJ0_init_db425 89 = .ok (.iconst 1, 1) := by decide +kernel
theorem dJ0_init_db425_90 : decode cJ0_init_db425 90 = .ok (.ishl, 1) := by decide +kernel
theorem dJ0_init_db425_91 : decode cJ0_init_db425 91 = .ok (.invokestatic 54, 3) := by decide +kernel
theorem dJ0_init_db425_94 : decode cJ0_init_db425 94 = .ok (.putfield 9, 3) := by decide +kernel
theorem dJ0_init_db425_97 : decode cJ0_init_db425 97 = .ok (.return_, 1) := by decide +kernel
theorem dJ0_coder_7d493_0 : decode cJ0_coder_7d493 0 = .ok (.getstatic 38, 3) := by decide +kernel
theorem dJ0_coder_7d493_3 : decode cJ0_coder_7d493 3 = .ok (.ifCond .eq 10, 3) := by decide +kernel
theorem dJ0_coder_7d493_6 : decode cJ0_coder_7d493 6 = .ok (.aload_n 0, 1) := by decide +kernel
theorem dJ0_coder_7d493_7 : decode cJ0_coder_7d493 7 = .ok (.getfield 15, 3) := by decide +kernel
theorem dJ0_coder_7d493_10 : decode cJ0_coder_7d493 10 = .ok (.goto 4, 3) := by decide +kernel
theorem dJ0_coder_7d493_13 : decode cJ0_coder_7d493 13 = .ok (.iconst 1, 1) := by decide +kernel
theorem dJ0_coder_7d493_14 : decode cJ0_coder_7d493 14 = .ok (.ireturn, 1) := by decide +kernel
theorem dJ0_isLatin1_aae02_0 : decode cJ0_isLatin1_aae02 0 = .ok (.getstatic 38, 3) := by decide +kernel
theorem dJ0_isLatin1_aae02_3 : decode cJ0_isLatin1_aae02 3 = .ok (.ifCond .eq 14, 3) := by decide +kernel
theorem dJ0_isLatin1_aae02_6 : decode cJ0_isLatin1_aae02 6 = .ok (.aload_n 0, 1) := by decide +kernel
theorem dJ0_isLatin1_aae02_7 : decode cJ0_isLatin1_aae02 7 = .ok (.getfield 15, 3) := by decide +kernel
theorem dJ0_isLatin1_aae02_10 : decode cJ0_isLatin1_aae02 10 = .ok (.ifCond .ne 7, 3) := by decide +kernel
theorem dJ0_isLatin1_aae02_13 : decode cJ0_isLatin1_aae02 13 = .ok (.iconst 1, 1) := by decide +kernel
theorem dJ0_isLatin1_aae02_14 : decode cJ0_isLatin1_aae02 14 = .ok (.goto 4, 3) := by decide +kernel
theorem dJ0_isLatin1_aae02_17 : decode cJ0_isLatin1_aae02 17 = .ok (.iconst 0, 1) := by decide +kernel
theorem dJ0_isLatin1_aae02_18 : decode cJ0_isLatin1_aae02 18 = .ok (.ireturn, 1) := by decide +kernel
theorem dJ0_checkIndex_df160_0 : decode cJ0_checkIndex_df160 0 = .ok (.iload_n 0, 1) := by decide +kernel
theorem dJ0_checkIndex_df160_1 : decode cJ0_checkIndex_df160 1 = .ok (.iload_n 1, 1) := by decide +kernel
theorem dJ0_checkIndex_df160_2 : decode cJ0_checkIndex_df160 2 = .ok (.getstatic 1053, 3) := by decide +kernel
theorem dJ0_checkIndex_df160_5 : decode cJ0_checkIndex_df160 5 = .ok (.invokestatic 1059, 3) := by decide +kernel
theorem dJ0_checkIndex_df160_8 : decode cJ0_checkIndex_df160 8 = .ok (.pop, 1) := by decide +kernel
theorem dJ0_checkIndex_df160_9 : decode cJ0_checkIndex_df160 9 = .ok (.return_, 1) := by decide +kernel
theorem dJ0_checkBoundsOffCount_cabcc_0 : decode cJ0_checkBoundsOffCount_cabcc 0 = .ok (.iload_n 0, 1) := by decide +kernel
theorem dJ0_checkBoundsOffCount_cabcc_1 : decode cJ0_checkBoundsOffCount_cabcc 1 = .ok (.iload_n 1, 1) := by decide +kernel
theorem dJ0_checkBoundsOffCount_cabcc_2 : decode cJ0_checkBoundsOffCount_cabcc 2 = .ok (.iload_n 2, 1) := by decide +kernel
theorem dJ0_checkBoundsOffCount_cabcc_3 : decode cJ0_checkBoundsOffCount_cabcc 3 = .ok (.getstatic 1053, 3) := by decide +kernel
theorem dJ0_checkBoundsOffCount_cabcc_6 : decode cJ0_checkBoundsOffCount_cabcc 6 = .ok (.invokestatic 1065, 3) := by decide +kernel
theorem dJ0_checkBoundsOffCount_cabcc_9 : decode cJ0_checkBoundsOffCount_cabcc 9 = .ok (.ireturn, 1) := by decide +kernel
theorem dJ0_checkBoundsBeginEnd_23922_0 : decode cJ0_checkBoundsBeginEnd_23922 0 = .ok (.iload_n 0, 1) := by decide +kernel
theorem dJ0_checkBoundsBeginEnd_23922_1 : decode cJ0_checkBoundsBeginEnd_23922 1 = .ok (.iload_n 1, 1) := by decide +kernel
theorem dJ0_checkBoundsBeginEnd_23922_2 : decode cJ0_checkBoundsBeginEnd_23922 2 = .ok (.iload_n 2, 1) := by decide +kernel
theorem dJ0_checkBoundsBeginEnd_23922_3 : decode cJ0_checkBoundsBeginEnd_23922 3 = .ok (.getstatic 1053, 3) := by decide +kernel
theorem dJ0_checkBoundsBeginEnd_23922_6 : decode cJ0_checkBoundsBeginEnd_23922 6 = .ok (.invokestatic 1062, 3) := by decide +kernel
theorem dJ0_checkBoundsBeginEnd_23922_9 : decode cJ0_checkBoundsBeginEnd_23922 9 = .ok (.pop, 1) := by decide +kernel
theorem dJ0_checkBoundsBeginEnd_23922_10 : decode cJ0_checkBoundsBeginEnd_23922 10 = .ok (.return_, 1) := by decide +kernel
theorem dJ4_init_da8c8_0 : decode cJ4_init_da8c8 0 = .ok (.aload_n 0, 1) := by decide +kernel
theorem dJ4_init_da8c8_1 : decode cJ4_init_da8c8 1 = .ok (.bipush 16, 2) := by decide +kernel
theorem dJ4_init_da8c8_3 : decode cJ4_init_da8c8 3 = .ok (.invokespecial 1, 3) := by decide +kernel
theorem dJ4_init_da8c8_6 : decode cJ4_init_da8c8 6 = .ok (.return_, 1) := by decide +kernel
theorem dJ4_append_15ec4_0 : decode cJ4_append_15ec4 0 = .ok (.aload_n 0, 1) := by decide +kernel
theorem dJ4_append_15ec4_1 : decode cJ4_append_15ec4 1 = .ok (.aload_n 1, 1) := by decide +kernel
theorem dJ4_append_15ec4_2 : decode cJ4_append_15ec4 2 = .ok (.invokespecial 29, 3) := by decide +kernel
theorem dJ4_append_15ec4_5 : decode cJ4_append_15ec4 5 = .ok (.pop, 1) := by decide +kernel
theorem dJ4_append_15ec4_6 : decode cJ4_append_15ec4 6 = .ok (.aload_n 0, 1) := by decide +kernel
theorem dJ4_append_15ec4_7 : decode cJ4_append_15ec4 7 = .ok (.areturn, 1) := by decide +kernel
theorem dJ4_append_cf468_0 : decode cJ4_append_cf468 0 = .ok (.aload_n 0, 1) := by decide +kernel
theorem dJ4_append_cf468_1 : decode cJ4_append_cf468 1 = .ok (.iload_n 1, 1) := by decide +kernel
theorem dJ4_append_cf468_2 : decode cJ4_append_cf468 2 = .ok (.invokespecial 50, 3) := by decide +kernel
theorem dJ4_append_cf468_5 : decode cJ4_append_cf468 5 = .ok (.pop, 1) := by decide +kernel
theorem dJ4_append_cf468_6 : decode cJ4_append_cf468 6 = .ok (.aload_n 0, 1) := by decide +kernel
theorem dJ4_append_cf468_7 : decode cJ4_append_cf468 7 = .ok (.areturn, 1) := by decide +kernel
theorem dJ4_append_bf812_0 : decode cJ4_append_bf812 0 = .ok (.aload_n 0, 1) := by decide +kernel
theorem dJ4_append_bf812_1 : decode cJ4_append_bf812 1 = .ok (.iload_n 1, 1) := by decide +kernel
theorem dJ4_append_bf812_2 : decode cJ4_append_bf812 2 = .ok (.invokespecial 53, 3) := by decide +kernel
theorem dJ4_append_bf812_5 : decode cJ4_append_bf812 5 = .ok (.pop, 1) := by decide +kernel
theorem dJ4_append_bf812_6 : decode cJ4_append_bf812 6 = .ok (.aload_n 0, 1) := by decide +kernel
theorem dJ4_append_bf812_7 : decode cJ4_append_bf812 7 = .ok (.areturn, 1) := by decide +kernel
theorem dJ4_toString_0e30d_0 : decode cJ4_toString_0e30d 0 = .ok (.new 18, 3) := by decide +kernel
theorem dJ4_toString_0e30d_3 : decode cJ4_toString_0e30d 3 = .ok (.dup, 1) := by decide +kernel
theorem dJ4_toString_0e30d_4 : decode cJ4_toString_0e30d 4 = .ok (.aload_n 0, 1) := by decide +kernel
theorem dJ4_toString_0e30d_5 : decode cJ4_toString_0e30d 5 = .ok (.invokespecial 137, 3) := by decide +kernel
theorem dJ4_toString_0e30d_8 : decode cJ4_toString_0e30d 8 = .ok (.areturn, 1) := by decide +kernel
theorem dJ4_charAt_5068e_0 : decode cJ4_charAt_5068e 0 = .ok (.aload_n 0, 1) := by decide +kernel
theorem dJ4_charAt_5068e_1 : decode cJ4_charAt_5068e 1 = .ok (.iload_n 1, 1) := by decide +kernel
theorem dJ4_charAt_5068e_2 : decode cJ4_charAt_5068e 2 = .ok (.invokespecial 329, 3) := by decide +kernel
theorem dJ4_charAt_5068e_5 : decode cJ4_charAt_5068e 5 = .ok (.ireturn, 1) := by decide +kernel
theorem dJ4_setLength_d00df_0 : decode cJ4_setLength_d00df 0 = .ok (.aload_n 0, 1) := by decide +kernel
theorem dJ4_setLength_d00df_1 : decode cJ4_setLength_d00df 1 = .ok (.iload_n 1, 1) := by decide +kernel
theorem dJ4_setLength_d00df_2 : decode cJ4_setLength_d00df 2 = .ok (.invokespecial 333, 3) := by decide +kernel
theorem dJ4_setLength_d00df_5 : decode cJ4_setLength_d00df 5 = .ok (.return_, 1) := by decide +kernel
theorem dJ4_length_8abf5_0 : decode cJ4_length_8abf5 0 = .ok (.aload_n 0, 1) := by decide +kernel
theorem dJ4_length_8abf5_1 : decode cJ4_length_8abf5 1 = .ok (.invokespecial 343, 3) := by decide +kernel
theorem dJ4_length_8abf5_4 : decode cJ4_length_8abf5 4 = .ok (.ireturn, 1) := by decide +kernel
theorem dJx7c733_init_d00df_0 : decode cJx7c733_init_d00df 0 = .ok (.aload_n 0, 1) := by decide +kernel
theorem dJx7c733_init_d00df_1 : decode cJx7c733_init_d00df 1 = .ok (.new 10, 3) := by decide +kernel
theorem dJx7c733_init_d00df_4 : decode cJx7c733_init_d00df 4 = .ok (.dup, 1) := by decide +kernel
theorem dJx7c733_init_d00df_5 : decode cJx7c733_init_d00df 5 = .ok (.invokespecial 12, 3) := by decide +kernel
theorem dJx7c733_init_d00df_8 : decode cJx7c733_init_d00df 8 = .ok (.ldc 13, 2) := by decide +kernel
theorem dJx7c733_init_d00df_10 : decode cJx7c733_init_d00df 10 = .ok (.invokevirtual 15, 3) := by decide +kernel
theorem dJx7c733_init_d00df_13 : decode cJx7c733_init_d00df 13 = .ok (.iload_n 1, 1) := by decide +kernel
theorem dJx7c733_init_d00df_14 : decode cJx7c733_init_d00df 14 = .ok (.invokevirtual 19, 3) := by decide +kernel
theorem dJx7c733_init_d00df_17 : decode cJx7c733_init_d00df 17 = .ok (.invokevirtual 22, 3) := by decide +kernel
theorem dJx7c733_init_d00df_20 : decode cJx7c733_init_d00df 20 = .ok (.invokespecial 7, 3) := by decide +kernel
theorem dJx7c733_init_d00df_23 : decode cJx7c733_init_d00df 23 = .ok (.return_, 1) := by decide +kernel
theorem dJ1_charAt_3b067_0 : decode cJ1_charAt_3b067 0 = .ok (.iload_n 1, 1) := by decide +kernel
theorem dJ1_charAt_3b067_1 : decode cJ1_charAt_3b067 1 = .ok (.aload_n 0, 1) := by decide +kernel
theorem dJ1_charAt_3b067_2 : decode cJ1_charAt_3b067 2 = .ok (.arraylength, 1) := by decide +kernel
theorem dJ1_charAt_3b067_3 : decode cJ1_charAt_3b067 3 = .ok (.invokestatic 9, 3) := by decide +kernel
theorem dJ1_charAt_3b067_6 : decode cJ1_charAt_3b067 6 = .ok (.aload_n 0, 1) := by decide +kernel
theorem dJ1_charAt_3b067_7 : decode cJ1_charAt_3b067 7 = .ok (.iload_n 1, 1) := by decide +kernel
theorem dJ1_charAt_3b067_8 : decode cJ1_charAt_3b067 8 = .ok (.baload, 1) := by decide +kernel
theorem dJ1_charAt_3b067_9 : decode cJ1_charAt_3b067 9 = .ok (.sipush 255, 3) := by decide +kernel
theorem dJ1_charAt_3b067_12 : decode cJ1_charAt_3b067 12 = .ok (.iand, 1) := by decide +kernel
theorem dJ1_charAt_3b067_13 : decode cJ1_charAt_3b067 13 = .ok (.i2c, 1) := by decide +kernel
theorem dJ1_charAt_3b067_14 : decode cJ1_charAt_3b067 14 = .ok (.ireturn, 1) := by decide +kernel
theorem dJ1_canEncode_fc78d_0 : decode cJ1_canEncode_fc78d 0 = .ok (.iload_n 0, 1) := by decide +kernel
theorem dJ1_canEncode_fc78d_1 : decode cJ1_canEncode_fc78d 1 = .ok (.sipush 255, 3) := by decide +kernel
theorem dJ1_canEncode_fc78d_4 : decode cJ1_canEncode_fc78d 4 = .ok (.if_icmp .gt 7, 3) := by decide +kernel
theorem dJ1_canEncode_fc78d_7 : decode cJ1_canEncode_fc78d 7 = .ok (.iconst 1, 1) := by decide +kernel
theorem dJ1_canEncode_fc78d_8 : decode cJ1_canEncode_fc78d 8 = .ok (.goto 4, 3) := by decide +kernel
theorem dJ1_canEncode_fc78d_11 : decode cJ1_canEncode_fc78d 11 = .ok (.iconst 0, 1) := by decide +kernel
theorem dJ1_canEncode_fc78d_12 : decode cJ1_canEncode_fc78d 12 = .ok (.ireturn, 1) := by decide +kernel
theorem dJ1_fillNull_b72d1_0 : decode cJ1_fillNull_b72d1 0 = .ok (.aload_n 0, 1) := by decide +kernel
theorem dJ1_fillNull_b72d1_1 : decode cJ1_fillNull_b72d1 1 = .ok (.iload_n 1, 1) := by decide +kernel
theorem dJ1_fillNull_b72d1_2 : decode cJ1_fillNull_b72d1 2 = .ok (.iload_n 2, 1) := by decide +kernel
theorem dJ1_fillNull_b72d1_3 : decode cJ1_fillNull_b72d1 3 = .ok (.iconst 0, 1) := by decide +kernel
theorem dJ1_fillNull_b72d1_4 : decode cJ1_fillNull_b72d1 4 = .ok (.invokestatic 236, 3) := by decide +kernel
theorem dJ1_fillNull_b72d1_7 : decode cJ1_fillNull_b72d1 7 = .ok (.return_, 1) := by decide +kernel
theorem dJ1_inflate_0e8fd_0 : decode cJ1_inflate_0e8fd 0 = .ok (.aload_n 0, 1) := by decide +kernel
theorem dJ1_inflate_0e8fd_1 : decode cJ1_inflate_0e8fd 1 = .ok (.iload_n 1, 1) := by decide +kernel
theorem dJ1_inflate_0e8fd_2 : decode cJ1_inflate_0e8fd 2 = .ok (.aload_n 2, 1) := by decide +kernel
theorem dJ1_inflate_0e8fd_3 : decode cJ1_inflate_0e8fd 3 = .ok (.iload_n 3, 1) := by decide +kernel
theorem dJ1_inflate_0e8fd_4 : decode cJ1_inflate_0e8fd 4 = .ok (.iload 4, 2) := by decide +kernel
theorem dJ1_inflate_0e8fd_6 : decode cJ1_inflate_0e8fd 6 = .ok (.invokestatic 240, 3) := by decide +kernel
theorem dJ1_inflate_0e8fd_9 : decode cJ1_inflate_0e8fd 9 = .ok (.return_, 1) := by decide +kernel
theorem dJ2_newBytesFor_77867_0 : decode cJ2_newBytesFor_77867 0 = .ok (.iload_n 0, 1) := by decide +kernel
theorem dJ2_newBytesFor_77867_1 : decode cJ2_newBytesFor_77867 1 = .ok (.invokestatic 11, 3) := by decide +kernel
theorem dJ2_newBytesFor_77867_4 : decode cJ2_newBytesFor_77867 4 = .ok (.newarray .byte, 2) := by decide +kernel
theorem dJ2_newBytesFor_77867_6 : decode cJ2_newBytesFor_77867 6 = .ok (.areturn, 1) := by decide +kernel
theorem dJ2_newBytesLength_0f7a4_0 : decode cJ2_newBytesLength_0f7a4 0 = .ok (.iload_n 0, 1) := by decide +kernel
theorem dJ2_newBytesLength_0f7a4_1 : decode cJ2_newBytesLength_0f7a4 1 = .ok (.ifCond .ge 11, 3) := by decide +kernel
theorem dJ2_newBytesLength_0f7a4_4 : decode cJ2_newBytesLength_0f7a4 4 = .ok (.new 17, 3) := by decide +kernel
theorem dJ2_newBytesLength_0f7a4_7 : decode cJ2_newBytesLength_0f7a4 7 = .ok (.dup, 1) := by decide +kernel
theorem dJ2_newBytesLength_0f7a4_8 : decode cJ2_newBytesLength_0f7a4 8 = .ok (.invokespecial 19, 3) := by decide +kernel
theorem dJ2_newBytesLength_0f7a4_11 : decode cJ2_newBytesLength_0f7a4 11 = .ok (.athrow, 1) := by decide +kernel
theorem dJ2_newBytesLength_0f7a4_12 : decode cJ2_newBytesLength_0f7a4 12 = .ok (.iload_n 0, 1) := by decide +kernel
theorem dJ2_newBytesLength_0f7a4_13 : decode cJ2_newBytesLength_0f7a4 13 = .ok (.ldc 20, 2) := by decide +kernel
theorem dJ2_newBytesLength_0f7a4_15 : decode cJ2_newBytesLength_0f7a4 15 = .ok (.if_icmp .lt 40, 3) := by decide +kernel
theorem dJ2_newBytesLength_0f7a4_18 : decode cJ2_newBytesLength_0f7a4 18 = .ok (.new 21, 3) := by decide +kernel
theorem dJ2_newBytesLength_0f7a4_21 : decode cJ2_newBytesLength_0f7a4 21 = .ok (.dup, 1) := by decide +kernel
theorem dJ2_newBytesLength_0f7a4_22 : decode cJ2_newBytesLength_0f7a4 22 = .ok (.new 23, 3) := by decide +kernel
theorem dJ2_newBytesLength_0f7a4_25 : decode cJ2_newBytesLength_0f7a4 25 = .ok (.dup, 1) := by decide +kernel
theorem dJ2_newBytesLength_0f7a4_26 : decode cJ2_newBytesLength_0f7a4 26 = .ok (.invokespecial 25, 3) := by decide +kernel
theorem dJ2_newBytesLength_0f7a4_29 : decode cJ2_newBytesLength_0f7a4 29 = .ok (.ldc 26, 2) := by decide +kernel
theorem dJ2_newBytesLength_0f7a4_31 : decode cJ2_newBytesLength_0f7a4 31 = .ok (.invokevirtual 28, 3) := by decide +kernel
theorem dJ2_newBytesLength_0f7a4_34 : decode cJ2_newBytesLength_0f7a4 34 = .ok (.iload_n 0, 1) := by decide +kernel
theorem dJ2_newBytesLength_0f7a4_35 : decode cJ2_newBytesLength_0f7a4 35 = .ok (.invokevirtual 32, 3) := by decide +kernel
theorem dJ2_newBytesLength_0f7a4_38 : decode cJ2_newBytesLength_0f7a4 38 = .ok (.ldc 35, 2) := by decide +kernel
theorem dJ2_newBytesLength_0f7a4_40 : decode cJ2_newBytesLength_0f7a4 40 = .ok (.invokevirtual 28, 3) := by decide +kernel
theorem dJ2_newBytesLength_0f7a4_43 : decode cJ2_newBytesLength_0f7a4 43 = .ok (.ldc 20, 2) := by decide +kernel
theorem dJ2_newBytesLength_0f7a4_45 : decode cJ2_newBytesLength_0f7a4 45 = .ok (.invokevirtual 32, 3) := by decide +kernel
theorem dJ2_newBytesLength_0f7a4_48 : decode cJ2_newBytesLength_0f7a4 48 = .ok (.invokevirtual 37, 3) := by decide +kernel
theorem dJ2_newBytesLength_0f7a4_51 : decode cJ2_newBytesLength_0f7a4 51 = .ok (.invokespecial 41, 3) := by decide +kernel
theorem dJ2_newBytesLength_0f7a4_54 : decode cJ2_newBytesLength_0f7a4 54 = .ok (.athrow, 1) := by decide +kernel
theorem dJ2_newBytesLength_0f7a4_55 : decode cJ2_newBytesLength_0f7a4 55 = .ok (.iload_n 0, 1) := by decide +kernel
theorem dJ2_newBytesLength_0f7a4_56 : decode cJ2_newBytesLength_0f7a4 56 = .ok (.iconst 1, 1) := by decide +kernel
theorem dJ2_newBytesLength_0f7a4_57 : decode cJ2_newBytesLength_0f7a4 57 = .ok (.ishl, 1) := by decide +kernel
theorem dJ2_newBytesLength_0f7a4_58 : decode cJ2_newBytesLength_0f7a4 58 = .ok (.ireturn, 1) := by decide +kernel
theorem dJ2_putChar_b72d1_0 : decode cJ2_putChar_b72d1 0 = .ok (.getstatic 44, 3) := by decide +kernel
theorem dJ2_putChar_b72d1_3 : decode cJ2_putChar_b72d1 3 = .ok (.ifCond .ne 25, 3) := by decide +kernel
theorem dJ2_putChar_b72d1_6 : decode cJ2_putChar_b72d1 6 = .ok (.iload_n 1, 1) := by decide +kernel
theorem dJ2_putChar_b72d1_7 : decode cJ2_putChar_b72d1 7 = .ok (.ifCond .lt 11, 3) := by decide +kernel
theorem dJ2_putChar_b72d1_10 : decode cJ2_putChar_b72d1 10 = .ok (.iload_n 1, 1) := by decide +kernel
theorem dJ2_putChar_b72d1_11 : decode cJ2_putChar_b72d1 11 = .ok (.aload_n 0, 1) := by decide +kernel
theorem dJ2_putChar_b72d1_12 : decode cJ2_putChar_b72d1 12 = .ok (.invokestatic 48, 3) := by decide +kernel
theorem dJ2_putChar_b72d1_15 : decode cJ2_putChar_b72d1 15 = .ok (.if_icmp .lt 13, 3) := by decide +kernel
theorem dJ2_putChar_b72d1_18 : decode cJ2_putChar_b72d1 18 = .ok (.new 52, 3) := by decide +kernel
theorem dJ2_putChar_b72d1_21 : decode cJ2_putChar_b72d1 21 = .ok (.dup, 1) := by decide +kernel
theorem dJ2_putChar_b72d1_22 : decode cJ2_putChar_b72d1 22 = .ok (.ldc 54, 2) := by decide +kernel
theorem dJ2_putChar_b72d1_24 : decode cJ2_putChar_b72d1 24 = .ok (.invokespecial 56, 3) := by decide +kernel
theorem dJ2_putChar_b72d1_27 : decode cJ2_putChar_b72d1 27 = .ok (.athrow, 1) := by decide +kernel
theorem dJ2_putChar_b72d1_28 : decode cJ2_putChar_b72d1 28 = .ok (.iload_n 1, 1) := by decide +kernel
theorem dJ2_putChar_b72d1_29 : decode cJ2_putChar_b72d1 29 = .ok (.iconst 1, 1) := by decide +kernel
theorem dJ2_putChar_b72d1_30 : decode cJ2_putChar_b72d1 30 = .ok (.ishl, 1) := by decide +kernel
theorem dJ2_putChar_b72d1_31 : decode cJ2_putChar_b72d1 31 = .ok (.istore_n 1, 1) := by decide +kernel
theorem dJ2_putChar_b72d1_32 : decode cJ2_putChar_b72d1 32 = .ok (.aload_n 0, 1) := by decide +kernel
theorem dJ2_putChar_b72d1_33 : decode cJ2_putChar_b72d1 33 = .ok (.iload_n 1, 1) := by decide +kernel
theorem dJ2_putChar_b72d1_34 : decode cJ2_putChar_b72d1 34 = .ok (.iinc 1 1, 3) := by decide +kernel
theorem dJ2_putChar_b72d1_37 : decode cJ2_putChar_b72d1 37 = .ok (.iload_n 2, 1) := by decide +kernel
theorem dJ2_putChar_b72d1_38 : decode cJ2_putChar_b72d1 38 = .ok (.getstatic 59, 3) := by decide +kernel
theorem dJ2_putChar_b72d1_41 : decode cJ2_putChar_b72d1 41 = .ok (.ishr, 1) := by decide +kernel
theorem dJ2_putChar_b72d1_42 : decode cJ2_putChar_b72d1 42 = .ok (.i2b, 1) := by decide +kernel
theorem dJ2_putChar_b72d1_43 : decode cJ2_putChar_b72d1 43 = .ok (.bastore, 1) := by decide +kernel
theorem dJ2_putChar_b72d1_44 : decode cJ2_putChar_b72d1 44 = .ok (.aload_n 0, 1) := by decide +kernel
theorem dJ2_putChar_b72d1_45 : decode cJ2_putChar_b72d1 45 = .ok (.iload_n 1, 1) := by decide +kernel
theorem dJ2_putChar_b72d1_46 : decode cJ2_putChar_b72d1 46 = .ok (.iload_n 2, 1) := by decide +kernel
theorem dJ2_putChar_b72d1_47 : decode cJ2_putChar_b72d1 47 = .ok (.getstatic 63, 3) := by decide +kernel
theorem dJ2_putChar_b72d1_50 : decode cJ2_putChar_b72d1 50 = .ok (.ishr, 1) := by decide +kernel
theorem dJ2_putChar_b72d1_51 : decode cJ2_putChar_b72d1 51 = .ok (.i2b, 1) := by decide +kernel
theorem dJ2_putChar_b72d1_52 : decode cJ2_putChar_b72d1 52 = .ok (.bastore, 1) := by decide +kernel
theorem dJ2_putChar_b72d1_53 : decode cJ2_putChar_b72d1 53 = .ok (.return_, 1) := by decide +kernel
theorem dJ2_getChar_3b067_0 : decode cJ2_getChar_3b067 0 = .ok (.getstatic 44, 3) := by decide +kernel
theorem dJ2_getChar_3b067_3 : decode cJ2_getChar_3b067 3 = .ok (.ifCond .ne 25, 3) := by decide +kernel
theorem dJ2_getChar_3b067_6 : decode cJ2_getChar_3b067 6 = .ok (.iload_n 1, 1) := by decide +kernel
theorem dJ2_getChar_3b067_7 : decode cJ2_getChar_3b067 7 = .ok (.ifCond .lt 11, 3) := by decide +kernel
theorem dJ2_getChar_3b067_10 : decode cJ2_getChar_3b067 10 = .ok (.iload_n 1, 1) := by decide +kernel
theorem dJ2_getChar_3b067_11 : decode cJ2_getChar_3b067 11 = .ok (.aload_n 0, 1) := by decide +kernel
theorem dJ2_getChar_3b067_12 : decode cJ2_getChar_3b067 12 = .ok (.invokestatic 48, 3) := by decide +kernel
theorem dJ2_getChar_3b067_15 : decode cJ2_getChar_3b067 15 = .ok (.if_icmp .lt 13, 3) := by decide +kernel
theorem dJ2_getChar_3b067_18 : decode cJ2_getChar_3b067 18 = .ok (.new 52, 3) := by decide +kernel
theorem dJ2_getChar_3b067_21 : decode cJ2_getChar_3b067 21 = .ok (.dup, 1) := by decide +kernel
theorem dJ2_getChar_3b067_22 : decode cJ2_getChar_3b067 22 = .ok (.ldc 54, 2) := by decide +kernel
theorem dJ2_getChar_3b067_24 : decode cJ2_getChar_3b067 24 = .ok (.invokespecial 56, 3) := by decide +kernel
theorem dJ2_getChar_3b067_27 : decode cJ2_getChar_3b067 27 = .ok (.athrow, 1) := by decide +kernel
theorem dJ2_getChar_3b067_28 : decode cJ2_getChar_3b067 28 = .ok (.iload_n 1, 1) := by decide +kernel
theorem dJ2_getChar_3b067_29 : decode cJ2_getChar_3b067 29 = .ok (.iconst 1, 1) := by decide +kernel
theorem dJ2_getChar_3b067_30 : decode cJ2_getChar_3b067 30 = .ok (.ishl, 1) := by decide +kernel
theorem dJ2_getChar_3b067_31 : decode cJ2_getChar_3b067 31 = .ok (.istore_n 1, 1) := by decide +kernel
theorem dJ2_getChar_3b067_32 : decode cJ2_getChar_3b067 32 = .ok (.aload_n 0, 1) := by decide +kernel
theorem dJ2_getChar_3b067_33 : decode cJ2_getChar_3b067 33 = .ok (.iload_n 1, 1) := by decide +kernel
theorem dJ2_getChar_3b067_34 : decode cJ2_getChar_3b067 34 = .ok (.iinc 1 1, 3) := by decide +kernel
theorem dJ2_getChar_3b067_37 : decode cJ2_getChar_3b067 37 = .ok (.baload, 1) := by decide +kernel
theorem dJ2_getChar_3b067_38 : decode cJ2_getChar_3b067 38 = .ok (.sipush 255, 3) := by decide +kernel
theorem dJ2_getChar_3b067_41 : decode cJ2_getChar_3b067 41 = .ok (.iand, 1) := by decide +kernel
theorem dJ2_getChar_3b067_42 : decode cJ2_getChar_3b067 42 = .ok (.getstatic 59, 3) := by decide +kernel
theorem dJ2_getChar_3b067_45 : decode cJ2_getChar_3b067 45 = .ok (.ishl, 1) := by decide +kernel
theorem dJ2_getChar_3b067_46 : decode cJ2_getChar_3b067 46 = .ok (.aload_n 0, 1) := by decide +kernel
theorem dJ2_getChar_3b067_47 : decode cJ2_getChar_3b067 47 = .ok (.iload_n 1, 1) := by decide +kernel
theorem dJ2_getChar_3b067_48 : decode cJ2_getChar_3b067 48 = .ok (.baload, 1) := by decide +kernel
theorem dJ2_getChar_3b067_49 : decode cJ2_getChar_3b067 49 = .ok (.sipush 255, 3) := by decide +kernel
theorem dJ2_getChar_3b067_52 : decode cJ2_getChar_3b067 52 = .ok (.iand, 1) := by decide +kernel
theorem dJ2_getChar_3b067_53 : decode cJ2_getChar_3b067 53 = .ok (.getstatic 63, 3) := by decide +kernel
theorem dJ2_getChar_3b067_56 : decode cJ2_getChar_3b067 56 = .ok (.ishl, 1) := by decide +kernel
theorem dJ2_getChar_3b067_57 : decode cJ2_getChar_3b067 57 = .ok (.ior, 1) := by decide +kernel
theorem dJ2_getChar_3b067_58 : decode cJ2_getChar_3b067 58 = .ok (.i2c, 1) := by decide +kernel
theorem dJ2_getChar_3b067_59 : decode cJ2_getChar_3b067 59 = .ok (.ireturn, 1) := by decide +kernel
theorem dJ2_length_9d52b_0 : decode cJ2_length_9d52b 0 = .ok (.aload_n 0, 1) := by decide +kernel
theorem dJ2_length_9d52b_1 : decode cJ2_length_9d52b 1 = .ok (.arraylength, 1) := by decide +kernel
theorem dJ2_length_9d52b_2 : decode cJ2_length_9d52b 2 = .ok (.iconst 1, 1) := by decide +kernel
theorem dJ2_length_9d52b_3 : decode cJ2_length_9d52b 3 = .ok (.ishr, 1) := by decide +kernel
theorem dJ2_length_9d52b_4 : decode cJ2_length_9d52b 4 = .ok (.ireturn, 1) := by decide +kernel
theorem dJ2_coderFromArrayLen_85cad_0 : decode cJ2_coderFromArrayLen_85cad 0 = .ok (.iload_n 1, 1) := by decide +kernel
theorem dJ2_coderFromArrayLen_85cad_1 : decode cJ2_coderFromArrayLen_85cad 1 = .ok (.aload_n 0, 1) := by decide +kernel
theorem dJ2_coderFromArrayLen_85cad_2 : decode cJ2_coderFromArrayLen_85cad 2 = .ok (.arraylength, 1) := by decide +kernel
theorem dJ2_coderFromArrayLen_85cad_3 : decode cJ2_coderFromArrayLen_85cad 3 = .ok (.isub, 1) := by decide +kernel
theorem dJ2_coderFromArrayLen_85cad_4 : decode cJ2_coderFromArrayLen_85cad 4 = .ok (.bipush 31, 2) := by decide +kernel
theorem dJ2_coderFromArrayLen_85cad_6 : decode cJ2_coderFromArrayLen_85cad 6 = .ok (.iushr, 1) := by decide +kernel
theorem dJ2_coderFromArrayLen_85cad_7 : decode cJ2_coderFromArrayLen_85cad 7 = .ok (.i2b, 1) := by decide +kernel
theorem dJ2_coderFromArrayLen_85cad_8 : decode cJ2_coderFromArrayLen_85cad 8 = .ok (.ireturn, 1) := by decide +kernel
theorem dJ2_compress_39247_0 : decode cJ2_compress_39247 0 = .ok (.iload_n 2, 1) := by decide +kernel
theorem dJ2_compress_39247_1 : decode cJ2_compress_39247 1 = .ok (.newarray .byte, 2) := by decide +kernel
theorem dJ2_compress_39247_3 : decode cJ2_compress_39247 3 = .ok (.astore_n 3, 1) := by decide +kernel
theorem dJ2_compress_39247_4 : decode cJ2_compress_39247 4 = .ok (.aload_n 0, 1) := by decide +kernel
theorem dJ2_compress_39247_5 : decode cJ2_compress_39247 5 = .ok (.iload_n 1, 1) := by decide +kernel
theorem dJ2_compress_39247_6 : decode cJ2_compress_39247 6 = .ok (.aload_n 3, 1) := by decide +kernel
theorem dJ2_compress_39247_7 : decode cJ2_compress_39247 7 = .ok (.iconst 0, 1) := by decide +kernel
theorem dJ2_compress_39247_8 : decode cJ2_compress_39247 8 = .ok (.iload_n 2, 1) := by decide +kernel
theorem dJ2_compress_39247_9 : decode cJ2_compress_39247 9 = .ok (.invokestatic 123, 3) := by decide +kernel
theorem dJ2_compress_39247_12 : decode cJ2_compress_39247 12 = .ok (.istore 4, 2) := by decide +kernel
theorem dJ2_compress_39247_14 : decode cJ2_compress_39247 14 = .ok (.iload 4, 2) := by decide +kernel
theorem dJ2_compress_39247_16 : decode cJ2_compress_39247 16 = .ok (.iload_n 2, 1) := by decide +kernel
theorem dJ2_compress_39247_17 : decode cJ2_compress_39247 17 = .ok (.if_icmp .eq 47, 3) := by decide +kernel
theorem dJ2_compress_39247_20 : decode cJ2_compress_39247 20 = .ok (.aload_n 0, 1) := by decide +kernel
theorem dJ2_compress_39247_21 : decode cJ2_compress_39247 21 = .ok (.iload_n 1, 1) := by decide +kernel
theorem dJ2_compress_39247_22 : decode cJ2_compress_39247 22 = .ok (.iconst 1, 1) := by decide +kernel
theorem dJ2_compress_39247_23 : decode cJ2_compress_39247 23 = .ok (.ishl, 1) := by decide +kernel
theorem dJ2_compress_39247_24 : decode cJ2_compress_39247 24 = .ok (.iload_n 1, 1) := by decide +kernel
theorem dJ2_compress_39247_25 : decode cJ2_compress_39247 25 = .ok (.iload_n 2, 1) := by decide +kernel
theorem dJ2_compress_39247_26 : decode cJ2_compress_39247 26 = .ok (.iadd, 1) := by decide +kernel
theorem dJ2_compress_39247_27 : decode cJ2_compress_39247 27 = .ok (.invokestatic 11, 3) := by decide +kernel
theorem dJ2_compress_39247_30 : decode cJ2_compress_39247 30 = .ok (.invokestatic 126, 3) := by decide +kernel
theorem dJ2_compress_39247_33 : decode cJ2_compress_39247 33 = .ok (.astore 5, 2) := by decide +kernel
theorem dJ2_compress_39247_35 : decode cJ2_compress_39247 35 = .ok (.aload 5, 2) := by decide +kernel
theorem dJ2_compress_39247_37 : decode cJ2_compress_39247 37 = .ok (.iload 4, 2) := by decide +kernel
theorem dJ2_compress_39247_39 : decode cJ2_compress_39247 39 = .ok (.invokestatic 71, 3) := by decide +kernel
theorem dJ2_compress_39247_42 : decode cJ2_compress_39247 42 = .ok (.sipush 255, 3) := by decide +kernel
theorem dJ2_compress_39247_45 : decode cJ2_compress_39247 45 = .ok (.if_icmp .gt 16, 3) := by decide +kernel
theorem dJ2_compress_39247_48 : decode cJ2_compress_39247 48 = .ok (.aload 5, 2) := by decide +kernel
theorem dJ2_compress_39247_50 : decode cJ2_compress_39247 50 = .ok (.iconst 0, 1) := by decide +kernel
theorem dJ2_compress_39247_51 : decode cJ2_compress_39247 51 = .ok (.aload_n 3, 1) := by decide +kernel
theorem dJ2_compress_39247_52 : decode cJ2_compress_39247 52 = .ok (.iconst 0, 1) := by decide +kernel
theorem dJ2_compress_39247_53 : decode cJ2_compress_39247 53 = .ok (.iload_n 2, 1) := by decide +kernel
theorem dJ2_compress_39247_54 : decode cJ2_compress_39247 54 = .ok (.invokestatic 123, 3) := by decide +kernel
theorem dJ2_compress_39247_57 : decode cJ2_compress_39247 57 = .ok (.iload_n 2, 1) := by decide +kernel
theorem dJ2_compress_39247_58 : decode cJ2_compress_39247 58 = .ok (.if_icmp .eq 6, 3) := by decide +kernel
theorem dJ2_compress_39247_61 : decode cJ2_compress_39247 61 = .ok (.aload 5, 2) := by decide +kernel
theorem dJ2_compress_39247_63 : decode cJ2_compress_39247 63 = .ok (.areturn, 1) := by decide +kernel
theorem dJ2_compress_39247_64 : decode cJ2_compress_39247 64 = .ok (.aload_n 3, 1) := by decide +kernel
theorem dJ2_compress_39247_65 : decode cJ2_compress_39247 65 = .ok (.areturn, 1) := by decide +kernel
theorem dJ2_compress_5af95_0 : decode cJ2_compress_5af95 0 = .ok (.iload_n 1, 1) := by decide +kernel
theorem dJ2_compress_5af95_1 : decode cJ2_compress_5af95 1 = .ok (.iload 4, 2) := by decide +kernel
theorem dJ2_compress_5af95_3 : decode cJ2_compress_5af95 3 = .ok (.aload_n 0, 1) := by decide +kernel
theorem dJ2_compress_5af95_4 : decode cJ2_compress_5af95 4 = .ok (.invokestatic 173, 3) := by decide +kernel
theorem dJ2_compress_5af95_7 : decode cJ2_compress_5af95 7 = .ok (.iconst 0, 1) := by decide +kernel
theorem dJ2_compress_5af95_8 : decode cJ2_compress_5af95 8 = .ok (.istore 5, 2) := by decide +kernel
theorem dJ2_compress_5af95_10 : decode cJ2_compress_5af95 10 = .ok (.iload 5, 2) := by decide +kernel
theorem dJ2_compress_5af95_12 : decode cJ2_compress_5af95 12 = .ok (.iload 4, 2) := by decide +kernel
theorem dJ2_compress_5af95_14 : decode cJ2_compress_5af95 14 = .ok (.if_icmp .ge 39, 3) := by decide +kernel
theorem dJ2_compress_5af95_17 : decode cJ2_compress_5af95 17 = .ok (.aload_n 0, 1) := by decide +kernel
theorem dJ2_compress_5af95_18 : decode cJ2_compress_5af95 18 = .ok (.iload_n 1, 1) := by decide +kernel
theorem dJ2_compress_5af95_19 : decode cJ2_compress_5af95 19 = .ok (.invokestatic 71, 3) := by decide +kernel
theorem dJ2_compress_5af95_22 : decode cJ2_compress_5af95 22 = .ok (.istore 6, 2) := by decide +kernel
theorem dJ2_compress_5af95_24 : decode cJ2_compress_5af95 24 = .ok (.iload 6, 2) := by decide +kernel
theorem dJ2_compress_5af95_26 : decode cJ2_compress_5af95 26 = .ok (.sipush 255, 3) := by decide +kernel
theorem dJ2_compress_5af95_29 : decode cJ2_compress_5af95 29 = .ok (.if_icmp .le 6, 3) := by decide +kernel
theorem dJ2_compress_5af95_32 : decode cJ2_compress_5af95 32 = .ok (.iload 5, 2) := by decide +kernel
theorem dJ2_compress_5af95_34 : decode cJ2_compress_5af95 34 = .ok (.ireturn, 1) := by decide +kernel
theorem dJ2_compress_5af95_35 : decode cJ2_compress_5af95 35 = .ok (.aload_n 2, 1) := by decide +kernel
theorem dJ2_compress_5af95_36 : decode cJ2_compress_5af95 36 = .ok (.iload_n 3, 1) := by decide +kernel
theorem dJ2_compress_5af95_37 : decode cJ2_compress_5af95 37 = .ok (.iload 6, 2) := by decide +kernel
theorem dJ2_compress_5af95_39 : decode cJ2_compress_5af95 39 = .ok (.i2b, 1) := by decide +kernel
theorem dJ2_compress_5af95_40 : decode cJ2_compress_5af95 40 = .ok (.bastore, 1) := by decide +kernel
theorem dJ2_compress_5af95_41 : decode cJ2_compress_5af95 41 = .ok (.iinc 1 1, 3) := by decide +kernel
theorem dJ2_compress_5af95_44 : decode cJ2_compress_5af95 44 = .ok (.iinc 3 1, 3) := by decide +kernel
theorem dJ2_compress_5af95_47 : decode cJ2_compress_5af95 47 = .ok (.iinc 5 1, 3) := by decide +kernel
theorem dJ2_compress_5af95_50 : decode cJ2_compress_5af95 50 = .ok (.goto (-40), 3) := by decide +kernel
theorem dJ2_compress_5af95_53 : decode cJ2_compress_5af95 53 = .ok (.iload 4, 2) := by decide +kernel
theorem dJ2_compress_5af95_55 : decode cJ2_compress_5af95 55 = .ok (.ireturn, 1) := by decide +kernel
theorem dJ2_fillNull_b72d1_0 : decode cJ2_fillNull_b72d1 0 = .ok (.aload_n 0, 1) := by decide +kernel
theorem dJ2_fillNull_b72d1_1 : decode cJ2_fillNull_b72d1 1 = .ok (.iload_n 1, 1) := by decide +kernel
theorem dJ2_fillNull_b72d1_2 : decode cJ2_fillNull_b72d1 2 = .ok (.iconst 1, 1) := by decide +kernel
theorem dJ2_fillNull_b72d1_3 : decode cJ2_fillNull_b72d1 3 = .ok (.ishl, 1) := by decide +kernel
theorem dJ2_fillNull_b72d1_4 : decode cJ2_fillNull_b72d1 4 = .ok (.iload_n 2, 1) := by decide +kernel
theorem dJ2_fillNull_b72d1_5 : decode cJ2_fillNull_b72d1 5 = .ok (.iconst 1, 1) := by decide +kernel
theorem dJ2_fillNull_b72d1_6 : decode cJ2_fillNull_b72d1 6 = .ok (.ishl, 1) := by decide +kernel
theorem dJ2_fillNull_b72d1_7 : decode cJ2_fillNull_b72d1 7 = .ok (.iconst 0, 1) := by decide +kernel
theorem dJ2_fillNull_b72d1_8 : decode cJ2_fillNull_b72d1 8 = .ok (.invokestatic 380, 3) := by decide +kernel
theorem dJ2_fillNull_b72d1_11 : decode cJ2_fillNull_b72d1 11 = .ok (.return_, 1) := by decide +kernel
theorem dJ2_putCharSB_b72d1_0 : decode cJ2_putCharSB_b72d1 0 = .ok (.iload_n 1, 1) := by decide +kernel
theorem dJ2_putCharSB_b72d1_1 : decode cJ2_putCharSB_b72d1 1 = .ok (.aload_n 0, 1) := by decide +kernel
theorem dJ2_putCharSB_b72d1_2 : decode cJ2_putCharSB_b72d1 2 = .ok (.invokestatic 67, 3) := by decide +kernel
theorem dJ2_putCharSB_b72d1_5 : decode cJ2_putCharSB_b72d1 5 = .ok (.aload_n 0, 1) := by decide +kernel
theorem dJ2_putCharSB_b72d1_6 : decode cJ2_putCharSB_b72d1 6 = .ok (.iload_n 1, 1) := by decide +kernel
theorem dJ2_putCharSB_b72d1_7 : decode cJ2_putCharSB_b72d1 7 = .ok (.iload_n 2, 1) := by decide +kernel
theorem dJ2_putCharSB_b72d1_8 : decode cJ2_putCharSB_b72d1 8 = .ok (.invokestatic 111, 3) := by decide +kernel
theorem dJ2_putCharSB_b72d1_11 : decode cJ2_putCharSB_b72d1 11 = .ok (.return_, 1) := by decide +kernel
theorem dJ2_getChars_46870_0 : decode cJ2_getChars_46870 0 = .ok (.iload_n 1, 1) := by decide +kernel
theorem dJ2_getChars_46870_1 : decode cJ2_getChars_46870 1 = .ok (.iload_n 2, 1) := by decide +kernel
theorem dJ2_getChars_46870_2 : decode cJ2_getChars_46870 2 = .ok (.aload_n 3, 1) := by decide +kernel
theorem dJ2_getChars_46870_3 : decode cJ2_getChars_46870 3 = .ok (.invokestatic 96, 3) := by decide +kernel
theorem dJ2_getChars_46870_6 : decode cJ2_getChars_46870 6 = .ok (.iload_n 0, 1) := by decide +kernel
theorem dJ2_getChars_46870_7 : decode cJ2_getChars_46870 7 = .ok (.iload_n 2, 1) := by decide +kernel
theorem dJ2_getChars_46870_8 : decode cJ2_getChars_46870 8 = .ok (.aload_n 3, 1) := by decide +kernel
theorem dJ2_getChars_46870_9 : decode cJ2_getChars_46870 9 = .ok (.invokestatic 393, 3) := by decide +kernel
theorem dJ2_getChars_46870_12 : decode cJ2_getChars_46870 12 = .ok (.istore 4, 2) := by decide +kernel
theorem dJ2_getChars_46870_14 : decode cJ2_getChars_46870 14 = .ok (.getstatic 44, 3) := by decide +kernel
theorem dJ2_getChars_46870_17 : decode cJ2_getChars_46870 17 = .ok (.ifCond .ne 17, 3) := by decide +kernel
theorem dJ2_getChars_46870_20 : decode cJ2_getChars_46870 20 = .ok (.iload_n 1, 1) := by decide +kernel
theorem dJ2_getChars_46870_21 : decode cJ2_getChars_46870 21 = .ok (.iload 4, 2) := by decide +kernel
theorem dJ2_getChars_46870_23 : decode cJ2_getChars_46870 23 = .ok (.if_icmp .eq 11, 3) := by decide +kernel
theorem dJ2_getChars_46870_26 : decode cJ2_getChars_46870 26 = .ok (.new 52, 3) := by decide +kernel
theorem dJ2_getChars_46870_29 : decode cJ2_getChars_46870 29 = .ok (.dup, 1) := by decide +kernel
theorem dJ2_getChars_46870_30 : decode cJ2_getChars_46870 30 = .ok (.invokespecial 66, 3) := by decide +kernel
theorem dJ2_getChars_46870_33 : decode cJ2_getChars_46870 33 = .ok (.athrow, 1) := by decide +kernel
theorem dJ2_getChars_46870_34 : decode cJ2_getChars_46870 34 = .ok (.iload 4, 2) := by decide +kernel
theorem dJ2_getChars_46870_36 : decode cJ2_getChars_46870 36 = .ok (.ireturn, 1) := by decide +kernel
theorem dJ2_putCharsAt_cd4e5_0 : decode cJ2_putCharsAt_cd4e5 0 = .ok (.iload_n 1, 1) := by decide +kernel
theorem dJ2_putCharsAt_cd4e5_1 : decode cJ2_putCharsAt_cd4e5 1 = .ok (.iconst 4, 1) := by decide +kernel
theorem dJ2_putCharsAt_cd4e5_2 : decode cJ2_putCharsAt_cd4e5 2 = .ok (.iadd, 1) := by decide +kernel
theorem dJ2_putCharsAt_cd4e5_3 : decode cJ2_putCharsAt_cd4e5 3 = .ok (.istore 6, 2) := by decide +kernel
theorem dJ2_putCharsAt_cd4e5_5 : decode cJ2_putCharsAt_cd4e5 5 = .ok (.iload_n 1, 1) := by decide +kernel
theorem dJ2_putCharsAt_cd4e5_6 : decode cJ2_putCharsAt_cd4e5 6 = .ok (.iload 6, 2) := by decide +kernel
theorem dJ2_putCharsAt_cd4e5_8 : decode cJ2_putCharsAt_cd4e5 8 = .ok (.aload_n 0, 1) := by decide +kernel
theorem dJ2_putCharsAt_cd4e5_9 : decode cJ2_putCharsAt_cd4e5 9 = .ok (.invokestatic 96, 3) := by decide +kernel
theorem dJ2_putCharsAt_cd4e5_12 : decode cJ2_putCharsAt_cd4e5 12 = .ok (.aload_n 0, 1) := by decide +kernel
theorem dJ2_putCharsAt_cd4e5_13 : decode cJ2_putCharsAt_cd4e5 13 = .ok (.iload_n 1, 1) := by decide +kernel
theorem dJ2_putCharsAt_cd4e5_14 : decode cJ2_putCharsAt_cd4e5 14 = .ok (.iinc 1 1, 3) := by decide +kernel
theorem dJ2_putCharsAt_cd4e5_17 : decode cJ2_putCharsAt_cd4e5 17 = .ok (.iload_n 2, 1) := by decide +kernel
theorem dJ2_putCharsAt_cd4e5_18 : decode cJ2_putCharsAt_cd4e5 18 = .ok (.invokestatic 111, 3) := by decide +kernel
theorem dJ2_putCharsAt_cd4e5_21 : decode cJ2_putCharsAt_cd4e5 21 = .ok (.aload_n 0, 1) := by decide +kernel
theorem dJ2_putCharsAt_cd4e5_22 : decode cJ2_putCharsAt_cd4e5 22 = .ok (.iload_n 1, 1) := by decide +kernel
theorem dJ2_putCharsAt_cd4e5_23 : decode cJ2_putCharsAt_cd4e5 23 = .ok (.iinc 1 1, 3) := by decide +kernel
theorem dJ2_putCharsAt_cd4e5_26 : decode cJ2_putCharsAt_cd4e5 26 = .ok (.iload_n 3, 1) := by decide +kernel
theorem dJ2_putCharsAt_cd4e5_27 : decode cJ2_putCharsAt_cd4e5 27 = .ok (.invokestatic 111, 3) := by decide +kernel
theorem dJ2_putCharsAt_cd4e5_30 : decode cJ2_putCharsAt_cd4e5 30 = .ok (.aload_n 0, 1) := by decide +kernel
theorem dJ2_putCharsAt_cd4e5_31 : decode cJ2_putCharsAt_cd4e5 31 = .ok (.iload_n 1, 1) := by decide +kernel
theorem dJ2_putCharsAt_cd4e5_32 : decode cJ2_putCharsAt_cd4e5 32 = .ok (.iinc 1 1, 3) := by decide +kernel
theorem dJ2_putCharsAt_cd4e5_35 : decode cJ2_putCharsAt_cd4e5 35 = .ok (.iload 4, 2) := by decide +kernel
theorem dJ2_putCharsAt_cd4e5_37 : decode cJ2_putCharsAt_cd4e5 37 = .ok (.invokestatic 111, 3) := by decide +kernel
theorem dJ2_putCharsAt_cd4e5_40 : decode cJ2_putCharsAt_cd4e5 40 = .ok (.aload_n 0, 1) := by decide +kernel
theorem dJ2_putCharsAt_cd4e5_41 : decode cJ2_putCharsAt_cd4e5 41 = .ok (.iload_n 1, 1) := by decide +kernel
theorem dJ2_putCharsAt_cd4e5_42 : decode cJ2_putCharsAt_cd4e5 42 = .ok (.iinc 1 1, 3) := by decide +kernel
theorem dJ2_putCharsAt_cd4e5_45 : decode cJ2_putCharsAt_cd4e5 45 = .ok (.iload 5, 2) := by decide +kernel
theorem dJ2_putCharsAt_cd4e5_47 : decode cJ2_putCharsAt_cd4e5 47 = .ok (.invokestatic 111, 3) := by decide +kernel
theorem dJ2_putCharsAt_cd4e5_50 : decode cJ2_putCharsAt_cd4e5 50 = .ok (.getstatic 44, 3) := by decide +kernel
theorem dJ2_putCharsAt_cd4e5_53 : decode cJ2_putCharsAt_cd4e5 53 = .ok (.ifCond .ne 17, 3) := by decide +kernel
theorem dJ2_putCharsAt_cd4e5_56 : decode cJ2_putCharsAt_cd4e5 56 = .ok (.iload_n 1, 1) := by decide +kernel
theorem dJ2_putCharsAt_cd4e5_57 : decode cJ2_putCharsAt_cd4e5 57 = .ok (.iload 6, 2) := by decide +kernel
theorem dJ2_putCharsAt_cd4e5_59 : decode cJ2_putCharsAt_cd4e5 59 = .ok (.if_icmp .eq 11, 3) := by decide +kernel
theorem dJ2_putCharsAt_cd4e5_62 : decode cJ2_putCharsAt_cd4e5 62 = .ok (.new 52, 3) := by decide +kernel
theorem dJ2_putCharsAt_cd4e5_65 : decode cJ2_putCharsAt_cd4e5 65 = .ok (.dup, 1) := by decide +kernel
theorem dJ2_putCharsAt_cd4e5_66 : decode cJ2_putCharsAt_cd4e5 66 = .ok (.invokespecial 66, 3) := by decide +kernel
theorem dJ2_putCharsAt_cd4e5_69 : decode cJ2_putCharsAt_cd4e5 69 = .ok (.athrow, 1) := by decide +kernel
theorem dJ2_putCharsAt_cd4e5_70 : decode cJ2_putCharsAt_cd4e5 70 = .ok (.iload 6, 2) := by decide +kernel
theorem dJ2_putCharsAt_cd4e5_72 : decode cJ2_putCharsAt_cd4e5 72 = .ok (.ireturn, 1) := by decide +kernel
theorem dJ2_charAt_3b067_0 : decode cJ2_charAt_3b067 0 = .ok (.iload_n 1, 1) := by decide +kernel
theorem dJ2_charAt_3b067_1 : decode cJ2_charAt_3b067 1 = .ok (.aload_n 0, 1) := by decide +kernel
theorem dJ2_charAt_3b067_2 : decode cJ2_charAt_3b067 2 = .ok (.invokestatic 67, 3) := by decide +kernel
theorem dJ2_charAt_3b067_5 : decode cJ2_charAt_3b067 5 = .ok (.aload_n 0, 1) := by decide +kernel
theorem dJ2_charAt_3b067_6 : decode cJ2_charAt_3b067 6 = .ok (.iload_n 1, 1) := by decide +kernel
theorem dJ2_charAt_3b067_7 : decode cJ2_charAt_3b067 7 = .ok (.invokestatic 71, 3) := by decide +kernel
theorem dJ2_charAt_3b067_10 : decode cJ2_charAt_3b067 10 = .ok (.ireturn, 1) := by decide +kernel
theorem dJ2_inflate_0e8fd_0 : decode cJ2_inflate_0e8fd 0 = .ok (.iload_n 3, 1) := by decide +kernel
theorem dJ2_inflate_0e8fd_1 : decode cJ2_inflate_0e8fd 1 = .ok (.iload 4, 2) := by decide +kernel
theorem dJ2_inflate_0e8fd_3 : decode cJ2_inflate_0e8fd 3 = .ok (.aload_n 2, 1) := by decide +kernel
theorem dJ2_inflate_0e8fd_4 : decode cJ2_inflate_0e8fd 4 = .ok (.invokestatic 173, 3) := by decide +kernel
theorem dJ2_inflate_0e8fd_7 : decode cJ2_inflate_0e8fd 7 = .ok (.iconst 0, 1) := by decide +kernel
theorem dJ2_inflate_0e8fd_8 : decode cJ2_inflate_0e8fd 8 = .ok (.istore 5, 2) := by decide +kernel
theorem dJ2_inflate_0e8fd_10 : decode cJ2_inflate_0e8fd 10 = .ok (.iload 5, 2) := by decide +kernel
theorem dJ2_inflate_0e8fd_12 : decode cJ2_inflate_0e8fd 12 = .ok (.iload 4, 2) := by decide +kernel
theorem dJ2_inflate_0e8fd_14 : decode cJ2_inflate_0e8fd 14 = .ok (.if_icmp .ge 27, 3) := by decide +kernel
theorem dJ2_inflate_0e8fd_17 : decode cJ2_inflate_0e8fd 17 = .ok (.aload_n 2, 1) := by decide +kernel
theorem dJ2_inflate_0e8fd_18 : decode cJ2_inflate_0e8fd 18 = .ok (.iload_n 3, 1) := by decide +kernel
theorem dJ2_inflate_0e8fd_19 : decode cJ2_inflate_0e8fd 19 = .ok (.iinc 3 1, 3) := by decide +kernel
theorem dJ2_inflate_0e8fd_22 : decode cJ2_inflate_0e8fd 22 = .ok (.aload_n 0, 1) := by decide +kernel
theorem dJ2_inflate_0e8fd_23 : decode cJ2_inflate_0e8fd 23 = .ok (.iload_n 1, 1) := by decide +kernel
theorem dJ2_inflate_0e8fd_24 : decode cJ2_inflate_0e8fd 24 = .ok (.iinc 1 1, 3) := by decide +kernel
theorem dJ2_inflate_0e8fd_27 : decode cJ2_inflate_0e8fd 27 = .ok (.baload, 1) := by decide +kernel
theorem dJ2_inflate_0e8fd_28 : decode cJ2_inflate_0e8fd 28 = .ok (.sipush 255, 3) := by decide +kernel
theorem dJ2_inflate_0e8fd_31 : decode cJ2_inflate_0e8fd 31 = .ok (.iand, 1) := by decide +kernel
theorem dJ2_inflate_0e8fd_32 : decode cJ2_inflate_0e8fd 32 = .ok (.invokestatic 111, 3) := by decide +kernel
theorem dJ2_inflate_0e8fd_35 : decode cJ2_inflate_0e8fd 35 = .ok (.iinc 5 1, 3) := by decide +kernel
theorem dJ2_inflate_0e8fd_38 : decode cJ2_inflate_0e8fd 38 = .ok (.goto (-28), 3) := by decide +kernel
theorem dJ2_inflate_0e8fd_41 : decode cJ2_inflate_0e8fd 41 = .ok (.return_, 1) := by decide +kernel
theorem dJ2_getChars_ba4f3_0 : decode cJ2_getChars_ba4f3 0 = .ok (.iload_n 1, 1) := by decide +kernel
theorem dJ2_getChars_ba4f3_1 : decode cJ2_getChars_ba4f3 1 = .ok (.istore 5, 2) := by decide +kernel
theorem dJ2_getChars_ba4f3_3 : decode cJ2_getChars_ba4f3 3 = .ok (.iload_n 0, 1) := by decide +kernel
theorem dJ2_getChars_ba4f3_4 : decode cJ2_getChars_ba4f3 4 = .ok (.ifCond .ge 7, 3) := by decide +kernel
theorem dJ2_getChars_ba4f3_7 : decode cJ2_getChars_ba4f3 7 = .ok (.iconst 1, 1) := by decide +kernel
theorem dJ2_getChars_ba4f3_8 : decode cJ2_getChars_ba4f3 8 = .ok (.goto 4, 3) := by decide +kernel
theorem dJ2_getChars_ba4f3_11 : decode cJ2_getChars_ba4f3 11 = .ok (.iconst 0, 1) := by decide +kernel
theorem dJ2_getChars_ba4f3_12 : decode cJ2_getChars_ba4f3 12 = .ok (.istore 6, 2) := by decide +kernel
theorem dJ2_getChars_ba4f3_14 : decode cJ2_getChars_ba4f3 14 = .ok (.iload 6, 2) := by decide +kernel
theorem dJ2_getChars_ba4f3_16 : decode cJ2_getChars_ba4f3 16 = .ok (.ifCond .ne 6, 3) := by decide +kernel
theorem dJ2_getChars_ba4f3_19 : decode cJ2_getChars_ba4f3 19 = .ok (.iload_n 0, 1) := by decide +kernel
theorem dJ2_getChars_ba4f3_20 : decode cJ2_getChars_ba4f3 20 = .ok (.ineg, 1) := by decide +kernel
theorem dJ2_getChars_ba4f3_21 : decode cJ2_getChars_ba4f3 21 = .ok (.istore_n 0, 1) := by decide +kernel
theorem dJ2_getChars_ba4f3_22 : decode cJ2_getChars_ba4f3 22 = .ok (.iload_n 0, 1) := by decide +kernel
theorem dJ2_getChars_ba4f3_23 : decode cJ2_getChars_ba4f3 23 = .ok (.bipush (-100), 2) := by decide +kernel
theorem dJ2_getChars_ba4f3_25 : decode cJ2_getChars_ba4f3 25 = .ok (.if_icmp .gt 51, 3) := by decide +kernel
theorem dJ2_getChars_ba4f3_28 : decode cJ2_getChars_ba4f3 28 = .ok (.iload_n 0, 1) := by decide +kernel
theorem dJ2_getChars_ba4f3_29 : decode cJ2_getChars_ba4f3 29 = .ok (.bipush 100, 2) := by decide +kernel
theorem dJ2_getChars_ba4f3_31 : decode cJ2_getChars_ba4f3 31 = .ok (.idiv, 1) := by decide +kernel
theorem dJ2_getChars_ba4f3_32 : decode cJ2_getChars_ba4f3 32 = .ok (.istore_n 3, 1) := by decide +kernel
theorem dJ2_getChars_ba4f3_33 : decode cJ2_getChars_ba4f3 33 = .ok (.iload_n 3, 1) := by decide +kernel
theorem dJ2_getChars_ba4f3_34 : decode cJ2_getChars_ba4f3 34 = .ok (.bipush 100, 2) := by decide +kernel
theorem dJ2_getChars_ba4f3_36 : decode cJ2_getChars_ba4f3 36 = .ok (.imul, 1) := by decide +kernel
theorem dJ2_getChars_ba4f3_37 : decode cJ2_getChars_ba4f3 37 = .ok (.iload_n 0, 1) := by decide +kernel
theorem dJ2_getChars_ba4f3_38 : decode cJ2_getChars_ba4f3 38 = .ok (.isub, 1) := by decide +kernel
theorem dJ2_getChars_ba4f3_39 : decode cJ2_getChars_ba4f3 39 = .ok (.istore 4, 2) := by decide +kernel
theorem dJ2_getChars_ba4f3_41 : decode cJ2_getChars_ba4f3 41 = .ok (.iload_n 3, 1) := by decide +kernel
theorem dJ2_getChars_ba4f3_42 : decode cJ2_getChars_ba4f3 42 = .ok (.istore_n 0, 1) := by decide +kernel
theorem dJ2_getChars_ba4f3_43 : decode cJ2_getChars_ba4f3 43 = .ok (.aload_n 2, 1) := by decide +kernel
theorem dJ2_getChars_ba4f3_44 : decode cJ2_getChars_ba4f3 44 = .ok (.iinc 5 (-1), 3) := by decide +kernel
theorem dJ2_getChars_ba4f3_47 : decode cJ2_getChars_ba4f3 47 = .ok (.iload 5, 2) := by decide +kernel
theorem dJ2_getChars_ba4f3_49 : decode cJ2_getChars_ba4f3 49 = .ok (.getstatic 403, 3) := by decide +kernel
theorem dJ2_getChars_ba4f3_52 : decode cJ2_getChars_ba4f3 52 = .ok (.iload 4, 2) := by decide +kernel
theorem dJ2_getChars_ba4f3_54 : decode cJ2_getChars_ba4f3 54 = .ok (.baload, 1) := by decide +kernel
theorem dJ2_getChars_ba4f3_55 : decode cJ2_getChars_ba4f3 55 = .ok (.invokestatic 111, 3) := by decide +kernel
theorem dJ2_getChars_ba4f3_58 : decode cJ2_getChars_ba4f3 58 = .ok (.aload_n 2, 1) := by decide +kernel
theorem dJ2_getChars_ba4f3_59 : decode cJ2_getChars_ba4f3 59 = .ok (.iinc 5 (-1), 3) := by decide +kernel
theorem dJ2_getChars_ba4f3_62 : decode cJ2_getChars_ba4f3 62 = .ok (.iload 5, 2) := by decide +kernel
theorem dJ2_getChars_ba4f3_64 : decode cJ2_getChars_ba4f3 64 = .ok (.getstatic 407, 3) := by decide +kernel
theorem dJ2_getChars_ba4f3_67 : decode cJ2_getChars_ba4f3 67 = .ok (.iload 4, 2) := by decide +kernel
theorem dJ2_getChars_ba4f3_69 : decode cJ2_getChars_ba4f3 69 = .ok (.baload, 1) := by decide +kernel
theorem dJ2_getChars_ba4f3_70 : decode cJ2_getChars_ba4f3 70 = .ok (.invokestatic 111, 3) := by decide +kernel
theorem dJ2_getChars_ba4f3_73 : decode cJ2_getChars_ba4f3 73 = .ok (.goto (-51), 3) := by decide +kernel
theorem dJ2_getChars_ba4f3_76 : decode cJ2_getChars_ba4f3 76 = .ok (.aload_n 2, 1) := by decide +kernel
theorem dJ2_getChars_ba4f3_77 : decode cJ2_getChars_ba4f3 77 = .ok (.iinc 5 (-1), 3) := by decide +kernel
theorem dJ2_getChars_ba4f3_80 : decode cJ2_getChars_ba4f3 80 = .ok (.iload 5, 2) := by decide +kernel
theorem dJ2_getChars_ba4f3_82 : decode cJ2_getChars_ba4f3 82 = .ok (.getstatic 403, 3) := by decide +kernel
theorem dJ2_getChars_ba4f3_85 : decode cJ2_getChars_ba4f3 85 = .ok (.iload_n 0, 1) := by decide +kernel
theorem dJ2_getChars_ba4f3_86 : decode cJ2_getChars_ba4f3 86 = .ok (.ineg, 1) := by decide +kernel
theorem dJ2_getChars_ba4f3_87 : decode cJ2_getChars_ba4f3 87 = .ok (.baload, 1) := by decide +kernel
theorem dJ2_getChars_ba4f3_88 : decode cJ2_getChars_ba4f3 88 = .ok (.invokestatic 111, 3) := by decide +kernel
theorem dJ2_getChars_ba4f3_91 : decode cJ2_getChars_ba4f3 91 = .ok (.iload_n 0, 1) := by decide +kernel
theorem dJ2_getChars_ba4f3_92 : decode cJ2_getChars_ba4f3 92 = .ok (.bipush (-9), 2) := by decide +kernel
theorem dJ2_getChars_ba4f3_94 : decode cJ2_getChars_ba4f3 94 = .ok (.if_icmp .ge 18, 3) := by decide +kernel
theorem dJ2_getChars_ba4f3_97 : decode cJ2_getChars_ba4f3 97 = .ok (.aload_n 2, 1) := by decide +kernel
theorem dJ2_getChars_ba4f3_98 : decode cJ2_getChars_ba4f3 98 = .ok (.iinc 5 (-1), 3) := by decide +kernel
theorem dJ2_getChars_ba4f3_101 : decode cJ2_getChars_ba4f3 101 = .ok (.iload 5, 2) := by decide +kernel
theorem dJ2_getChars_ba4f3_103 : decode cJ2_getChars_ba4f3 103 = .ok (.getstatic 407, 3) := by decide +kernel
theorem dJ2_getChars_ba4f3_106 : decode cJ2_getChars_ba4f3 106 = .ok (.iload_n 0, 1) := by decide +kernel
theorem dJ2_getChars_ba4f3_107 : decode cJ2_getChars_ba4f3 107 = .ok (.ineg, 1) := by decide +kernel
theorem dJ2_getChars_ba4f3_108 : decode cJ2_getChars_ba4f3 108 = .ok (.baload, 1) := by decide +kernel
theorem dJ2_getChars_ba4f3_109 : decode cJ2_getChars_ba4f3 109 = .ok (.invokestatic 111, 3) := by decide +kernel
theorem dJ2_getChars_ba4f3_112 : decode cJ2_getChars_ba4f3 112 = .ok (.iload 6, 2) := by decide +kernel
theorem dJ2_getChars_ba4f3_114 : decode cJ2_getChars_ba4f3 114 = .ok (.ifCond .eq 14, 3) := by decide +kernel
theorem dJ2_getChars_ba4f3_117 : decode cJ2_getChars_ba4f3 117 = .ok (.aload_n 2, 1) := by decide +kernel
theorem dJ2_getChars_ba4f3_118 : decode cJ2_getChars_ba4f3 118 = .ok (.iinc 5 (-1), 3) := by decide +kernel
theorem dJ2_getChars_ba4f3_121 : decode cJ2_getChars_ba4f3 121 = .ok (.iload 5, 2) := by decide +kernel
theorem dJ2_getChars_ba4f3_123 : decode cJ2_getChars_ba4f3 123 = .ok (.bipush 45, 2) := by decide +kernel
theorem dJ2_getChars_ba4f3_125 : decode cJ2_getChars_ba4f3 125 = .ok (.invokestatic 111, 3) := by decide +kernel
theorem dJ2_getChars_ba4f3_128 : decode cJ2_getChars_ba4f3 128 = .ok (.iload 5, 2) := by decide +kernel
theorem dJ2_getChars_ba4f3_130 : decode cJ2_getChars_ba4f3 130 = .ok (.ireturn, 1) := by decide +kernel
theorem dJ2_checkIndex_2214a_0 : decode cJ2_checkIndex_2214a 0 = .ok (.iload_n 0, 1) := by decide +kernel
theorem dJ2_checkIndex_2214a_1 : decode cJ2_checkIndex_2214a 1 = .ok (.aload_n 1, 1) := by decide +kernel
theorem dJ2_checkIndex_2214a_2 : decode cJ2_checkIndex_2214a 2 = .ok (.invokestatic 48, 3) := by decide +kernel
theorem dJ2_checkIndex_2214a_5 : decode cJ2_checkIndex_2214a 5 = .ok (.invokestatic 414, 3) := by decide +kernel
theorem dJ2_checkIndex_2214a_8 : decode cJ2_checkIndex_2214a 8 = .ok (.return_, 1) := by decide +kernel
theorem dJ2_checkBoundsBeginEnd_d044e_0 : decode cJ2_checkBoundsBeginEnd_d044e 0 = .ok (.iload_n 0, 1) := by decide +kernel
theorem dJ2_checkBoundsBeginEnd_d044e_1 : decode cJ2_checkBoundsBeginEnd_d044e 1 = .ok (.iload_n 1, 1) := by decide +kernel
theorem dJ2_checkBoundsBeginEnd_d044e_2 : decode cJ2_checkBoundsBeginEnd_d044e 2 = .ok (.aload_n 2, 1) := by decide +kernel
theorem dJ2_checkBoundsBeginEnd_d044e_3 : decode cJ2_checkBoundsBeginEnd_d044e 3 = .ok (.invokestatic 48, 3) := by decide +kernel
theorem dJ2_checkBoundsBeginEnd_d044e_6 : decode cJ2_checkBoundsBeginEnd_d044e 6 = .ok (.invokestatic 241, 3) := by decide +kernel
theorem dJ2_checkBoundsBeginEnd_d044e_9 : decode cJ2_checkBoundsBeginEnd_d044e 9 = .ok (.return_, 1) := by decide +kernel
theorem dJ2_checkBoundsOffCount_d044e_0 : decode cJ2_checkBoundsOffCount_d044e 0 = .ok (.iload_n 0, 1) := by decide +kernel
theorem dJ2_checkBoundsOffCount_d044e_1 : decode cJ2_checkBoundsOffCount_d044e 1 = .ok (.iload_n 1, 1) := by decide +kernel
theorem dJ2_checkBoundsOffCount_d044e_2 : decode cJ2_checkBoundsOffCount_d044e 2 = .ok (.aload_n 2, 1) := by decide +kernel
theorem dJ2_checkBoundsOffCount_d044e_3 : decode cJ2_checkBoundsOffCount_d044e 3 = .ok (.invokestatic 48, 3) := by decide +kernel
theorem dJ2_checkBoundsOffCount_d044e_6 : decode cJ2_checkBoundsOffCount_d044e 6 = .ok (.invokestatic 419, 3) := by decide +kernel
theorem dJ2_checkBoundsOffCount_d044e_9 : decode cJ2_checkBoundsOffCount_d044e 9 = .ok (.pop, 1) := by decide +kernel
theorem dJ2_checkBoundsOffCount_d044e_10 : decode cJ2_checkBoundsOffCount_d044e 10 = .ok (.return_, 1) := by decide +kernel
theorem dJ7_rangeCheck_23922_0 : decode cJ7_rangeCheck_23922 0 = .ok (.iload_n 1, 1) := by decide +kernel
theorem dJ7_rangeCheck_23922_1 : decode cJ7_rangeCheck_23922 1 = .ok (.iload_n 2, 1) := by decide +kernel
theorem dJ7_rangeCheck_23922_2 : decode cJ7_rangeCheck_23922 2 = .ok (.if_icmp .le 44, 3) := by decide +kernel
theorem dJ7_rangeCheck_23922_5 : decode cJ7_rangeCheck_23922 5 = .ok (.new 43, 3) := by decide +kernel
theorem dJ7_rangeCheck_23922_8 : decode cJ7_rangeCheck_23922 8 = .ok (.dup, 1) := by decide +kernel
theorem dJ7_rangeCheck_23922_9 : decode cJ7_rangeCheck_23922 9 = .ok (.new 45, 3) := by decide +kernel
theorem dJ7_rangeCheck_23922_12 : decode cJ7_rangeCheck_23922 12 = .ok (.dup, 1) := by decide +kernel
theorem dJ7_rangeCheck_23922_13 : decode cJ7_rangeCheck_23922 13 = .ok (.invokespecial 47, 3) := by decide +kernel
theorem dJ7_rangeCheck_23922_16 : decode cJ7_rangeCheck_23922 16 = .ok (.ldc 48, 2) := by decide +kernel
theorem dJ7_rangeCheck_23922_18 : decode cJ7_rangeCheck_23922 18 = .ok (.invokevirtual 50, 3) := by decide +kernel
theorem dJ7_rangeCheck_23922_21 : decode cJ7_rangeCheck_23922 21 = .ok (.iload_n 1, 1) := by decide +kernel
theorem dJ7_rangeCheck_23922_22 : decode cJ7_rangeCheck_23922 22 = .ok (.invokevirtual 54, 3) := by decide +kernel
theorem dJ7_rangeCheck_23922_25 : decode cJ7_rangeCheck_23922 25 = .ok (.ldc 57, 2) := by decide +kernel
theorem dJ7_rangeCheck_23922_27 : decode cJ7_rangeCheck_23922 27 = .ok (.invokevirtual 50, 3) := by decide +kernel
theorem dJ7_rangeCheck_23922_30 : decode cJ7_rangeCheck_23922 30 = .ok (.iload_n 2, 1) := by decide +kernel
theorem dJ7_rangeCheck_23922_31 : decode cJ7_rangeCheck_23922 31 = .ok (.invokevirtual 54, 3) := by decide +kernel
theorem dJ7_rangeCheck_23922_34 : decode cJ7_rangeCheck_23922 34 = .ok (.ldc 59, 2) := by decide +kernel
theorem dJ7_rangeCheck_23922_36 : decode cJ7_rangeCheck_23922 36 = .ok (.invokevirtual 50, 3) := by decide +kernel
theorem dJ7_rangeCheck_23922_39 : decode cJ7_rangeCheck_23922 39 = .ok (.invokevirtual 61, 3) := by decide +kernel
theorem dJ7_rangeCheck_23922_42 : decode cJ7_rangeCheck_23922 42 = .ok (.invokespecial 65, 3) := by decide +kernel
theorem dJ7_rangeCheck_23922_45 : decode cJ7_rangeCheck_23922 45 = .ok (.athrow, 1) := by decide +kernel
theorem dJ7_rangeCheck_23922_46 : decode cJ7_rangeCheck_23922 46 = .ok (.iload_n 1, 1) := by decide +kernel
theorem dJ7_rangeCheck_23922_47 : decode cJ7_rangeCheck_23922 47 = .ok (.ifCond .ge 12, 3) := by decide +kernel
theorem dJ7_rangeCheck_23922_50 : decode cJ7_rangeCheck_23922 50 = .ok (.new 68, 3) := by decide +kernel
theorem dJ7_rangeCheck_23922_53 : decode cJ7_rangeCheck_23922 53 = .ok (.dup, 1) := by decide +kernel
theorem dJ7_rangeCheck_23922_54 : decode cJ7_rangeCheck_23922 54 = .ok (.iload_n 1, 1) := by decide +kernel
theorem dJ7_rangeCheck_23922_55 : decode cJ7_rangeCheck_23922 55 = .ok (.invokespecial 70, 3) := by decide +kernel
theorem dJ7_rangeCheck_23922_58 : decode cJ7_rangeCheck_23922 58 = .ok (.athrow, 1) := by decide +kernel
theorem dJ7_rangeCheck_23922_59 : decode cJ7_rangeCheck_23922 59 = .ok (.iload_n 2, 1) := by decide +kernel
theorem dJ7_rangeCheck_23922_60 : decode cJ7_rangeCheck_23922 60 = .ok (.iload_n 0, 1) := by decide +kernel
theorem dJ7_rangeCheck_23922_61 : decode cJ7_rangeCheck_23922 61 = .ok (.if_icmp .le 12, 3) := by decide +kernel
theorem dJ7_rangeCheck_23922_64 : decode cJ7_rangeCheck_23922 64 = .ok (.new 68, 3) := by decide +kernel
theorem dJ7_rangeCheck_23922_67 : decode cJ7_rangeCheck_23922 67 = .ok (.dup, 1) := by decide +kernel
theorem dJ7_rangeCheck_23922_68 : decode cJ7_rangeCheck_23922 68 = .ok (.iload_n 2, 1) := by decide +kernel
theorem dJ7_rangeCheck_23922_69 : decode cJ7_rangeCheck_23922 69 = .ok (.invokespecial 70, 3) := by decide +kernel
theorem dJ7_rangeCheck_23922_72 : decode cJ7_rangeCheck_23922 72 = .ok (.athrow, 1) := by decide +kernel
theorem dJ7_rangeCheck_23922_73 : decode cJ7_rangeCheck_23922 73 = .ok (.return_, 1) := by decide +kernel
theorem dJ7_fill_eb02e_0 : decode cJ7_fill_eb02e 0 = .ok (.aload_n 0, 1) := by decide +kernel
theorem dJ7_fill_eb02e_1 : decode cJ7_fill_eb02e 1 = .ok (.arraylength, 1) := by decide +kernel
theorem dJ7_fill_eb02e_2 : decode cJ7_fill_eb02e 2 = .ok (.iload_n 1, 1) := by decide +kernel
theorem dJ7_fill_eb02e_3 : decode cJ7_fill_eb02e 3 = .ok (.iload_n 2, 1) := by decide +kernel
theorem dJ7_fill_eb02e_4 : decode cJ7_fill_eb02e 4 = .ok (.invokestatic 13, 3) := by decide +kernel
theorem dJ7_fill_eb02e_7 : decode cJ7_fill_eb02e 7 = .ok (.iload_n 1, 1) := by decide +kernel
theorem dJ7_fill_eb02e_8 : decode cJ7_fill_eb02e 8 = .ok (.istore 4, 2) := by decide +kernel
theorem dJ7_fill_eb02e_10 : decode cJ7_fill_eb02e 10 = .ok (.iload 4, 2) := by decide +kernel
theorem dJ7_fill_eb02e_12 : decode cJ7_fill_eb02e 12 = .ok (.iload_n 2, 1) := by decide +kernel
theorem dJ7_fill_eb02e_13 : decode cJ7_fill_eb02e 13 = .ok (.if_icmp .ge 14, 3) := by decide +kernel
theorem dJ7_fill_eb02e_16 : decode cJ7_fill_eb02e 16 = .ok (.aload_n 0, 1) := by decide +kernel
theorem dJ7_fill_eb02e_17 : decode cJ7_fill_eb02e 17 = .ok (.iload 4, 2) := by decide +kernel
theorem dJ7_fill_eb02e_19 : decode cJ7_fill_eb02e 19 = .ok (.iload_n 3, 1) := by decide +kernel
theorem dJ7_fill_eb02e_20 : decode cJ7_fill_eb02e 20 = .ok (.bastore, 1) := by decide +kernel
theorem dJ7_fill_eb02e_21 : decode cJ7_fill_eb02e 21 = .ok (.iinc 4 1, 3) := by decide +kernel
theorem dJ7_fill_eb02e_24 : decode cJ7_fill_eb02e 24 = .ok (.goto (-14), 3) := by decide +kernel
theorem dJ7_fill_eb02e_27 : decode cJ7_fill_eb02e 27 = .ok (.return_, 1) := by decide +kernel
theorem dJ7_copyOf_9075b_0 : decode cJ7_copyOf_9075b 0 = .ok (.iload_n 1, 1) := by decide +kernel
theorem dJ7_copyOf_9075b_1 : decode cJ7_copyOf_9075b 1 = .ok (.aload_n 0, 1) := by decide +kernel
theorem dJ7_copyOf_9075b_2 : decode cJ7_copyOf_9075b 2 = .ok (.arraylength, 1) := by decide +kernel
theorem dJ7_copyOf_9075b_3 : decode cJ7_copyOf_9075b 3 = .ok (.if_icmp .ne 11, 3) := by decide +kernel
theorem dJ7_copyOf_9075b_6 : decode cJ7_copyOf_9075b 6 = .ok (.aload_n 0, 1) := by decide +kernel
theorem dJ7_copyOf_9075b_7 : decode cJ7_copyOf_9075b 7 = .ok (.invokevirtual 310, 3) := by decide +kernel
theorem dJ7_copyOf_9075b_10 : decode cJ7_copyOf_9075b 10 = .ok (.checkcast 311, 3) := by decide +kernel
theorem dJ7_copyOf_9075b_13 : decode cJ7_copyOf_9075b 13 = .ok (.areturn, 1) := by decide +kernel
theorem dJ7_copyOf_9075b_14 : decode cJ7_copyOf_9075b 14 = .ok (.iload_n 1, 1) := by decide +kernel
theorem dJ7_copyOf_9075b_15 : decode cJ7_copyOf_9075b 15 = .ok (.newarray .byte, 2) := by decide +kernel
theorem dJ7_copyOf_9075b_17 : decode cJ7_copyOf_9075b 17 = .ok (.astore_n 2, 1) := by decide +kernel
theorem dJ7_copyOf_9075b_18 : decode cJ7_copyOf_9075b 18 = .ok (.aload_n 0, 1) := by decide +kernel
theorem dJ7_copyOf_9075b_19 : decode cJ7_copyOf_9075b 19 = .ok (.iconst 0, 1) := by decide +kernel
theorem dJ7_copyOf_9075b_20 : decode cJ7_copyOf_9075b 20 = .ok (.aload_n 2, 1) := by decide +kernel
theorem dJ7_copyOf_9075b_21 : decode cJ7_copyOf_9075b 21 = .ok (.iconst 0, 1) := by decide +kernel
theorem dJ7_copyOf_9075b_22 : decode cJ7_copyOf_9075b 22 = .ok (.aload_n 0, 1) := by decide +kernel
theorem dJ7_copyOf_9075b_23 : decode cJ7_copyOf_9075b 23 = .ok (.arraylength, 1) := by decide +kernel
theorem dJ7_copyOf_9075b_24 : decode cJ7_copyOf_9075b 24 = .ok (.iload_n 1, 1) := by decide +kernel
theorem dJ7_copyOf_9075b_25 : decode cJ7_copyOf_9075b 25 = .ok (.invokestatic 304, 3) := by decide +kernel
theorem dJ7_copyOf_9075b_28 : decode cJ7_copyOf_9075b 28 = .ok (.invokestatic 150, 3) := by decide +kernel
theorem dJ7_copyOf_9075b_31 : decode cJ7_copyOf_9075b 31 = .ok (.aload_n 2, 1) := by decide +kernel
theorem dJ7_copyOf_9075b_32 : decode cJ7_copyOf_9075b 32 = .ok (.areturn, 1) := by decide +kernel
theorem dJ7_checkLength_df160_0 : decode cJ7_checkLength_df160 0 = .ok (.iload_n 1, 1) := by decide +kernel
theorem dJ7_checkLength_df160_1 : decode cJ7_checkLength_df160 1 = .ok (.iload_n 0, 1) := by decide +kernel
theorem dJ7_checkLength_df160_2 : decode cJ7_checkLength_df160 2 = .ok (.if_icmp .ge 35, 3) := by decide +kernel
theorem dJ7_checkLength_df160_5 : decode cJ7_checkLength_df160 5 = .ok (.new 43, 3) := by decide +kernel
theorem dJ7_checkLength_df160_8 : decode cJ7_checkLength_df160 8 = .ok (.dup, 1) := by decide +kernel
theorem dJ7_checkLength_df160_9 : decode cJ7_checkLength_df160 9 = .ok (.new 45, 3) := by decide +kernel
theorem dJ7_checkLength_df160_12 : decode cJ7_checkLength_df160 12 = .ok (.dup, 1) := by decide +kernel
theorem dJ7_checkLength_df160_13 : decode cJ7_checkLength_df160 13 = .ok (.invokespecial 47, 3) := by decide +kernel
theorem dJ7_checkLength_df160_16 : decode cJ7_checkLength_df160 16 = .ok (.iload_n 0, 1) := by decide +kernel
theorem dJ7_checkLength_df160_17 : decode cJ7_checkLength_df160 17 = .ok (.invokevirtual 54, 3) := by decide +kernel
theorem dJ7_checkLength_df160_20 : decode cJ7_checkLength_df160 20 = .ok (.ldc_w 337, 3) := by decide +kernel
theorem dJ7_checkLength_df160_23 : decode cJ7_checkLength_df160 23 = .ok (.invokevirtual 50, 3) := by decide +kernel
theorem dJ7_checkLength_df160_26 : decode cJ7_checkLength_df160 26 = .ok (.iload_n 1, 1) := by decide +kernel
theorem dJ7_checkLength_df160_27 : decode cJ7_checkLength_df160 27 = .ok (.invokevirtual 54, 3) := by decide +kernel
theorem dJ7_checkLength_df160_30 : decode cJ7_checkLength_df160 30 = .ok (.invokevirtual 61, 3) := by decide +kernel
theorem dJ7_checkLength_df160_33 : decode cJ7_checkLength_df160 33 = .ok (.invokespecial 65, 3) := by decide +kernel
theorem dJ7_checkLength_df160_36 : decode cJ7_checkLength_df160 36 = .ok (.athrow, 1) := by decide +kernel
theorem dJ7_checkLength_df160_37 : decode cJ7_checkLength_df160 37 = .ok (.return_, 1) := by decide +kernel
theorem dJ7_copyOfRange_39247_0 : decode cJ7_copyOfRange_39247 0 = .ok (.iload_n 1, 1) := by decide +kernel
theorem dJ7_copyOfRange_39247_1 : decode cJ7_copyOfRange_39247 1 = .ok (.ifCond .ne 9, 3) := by decide +kernel
theorem dJ7_copyOfRange_39247_4 : decode cJ7_copyOfRange_39247 4 = .ok (.iload_n 2, 1) := by decide +kernel
theorem dJ7_copyOfRange_39247_5 : decode cJ7_copyOfRange_39247 5 = .ok (.aload_n 0, 1) := by decide +kernel
theorem dJ7_copyOfRange_39247_6 : decode cJ7_copyOfRange_39247 6 = .ok (.arraylength, 1) := by decide +kernel
theorem dJ7_copyOfRange_39247_7 : decode cJ7_copyOfRange_39247 7 = .ok (.if_icmp .eq 10, 3) := by decide +kernel
theorem dJ7_copyOfRange_39247_10 : decode cJ7_copyOfRange_39247 10 = .ok (.aload_n 0, 1) := by decide +kernel
theorem dJ7_copyOfRange_39247_11 : decode cJ7_copyOfRange_39247 11 = .ok (.iload_n 1, 1) := by decide +kernel
theorem dJ7_copyOfRange_39247_12 : decode cJ7_copyOfRange_39247 12 = .ok (.iload_n 2, 1) := by decide +kernel
theorem dJ7_copyOfRange_39247_13 : decode cJ7_copyOfRange_39247 13 = .ok (.invokestatic 339, 3) := by decide +kernel
theorem dJ7_copyOfRange_39247_16 : decode cJ7_copyOfRange_39247 16 = .ok (.areturn, 1) := by decide +kernel
theorem dJ7_copyOfRange_39247_17 : decode cJ7_copyOfRange_39247 17 = .ok (.aload_n 0, 1) := by decide +kernel
theorem dJ7_copyOfRange_39247_18 : decode cJ7_copyOfRange_39247 18 = .ok (.invokevirtual 310, 3) := by decide +kernel
theorem dJ7_copyOfRange_39247_21 : decode cJ7_copyOfRange_39247 21 = .ok (.checkcast 311, 3) := by decide +kernel
theorem dJ7_copyOfRange_39247_24 : decode cJ7_copyOfRange_39247 24 = .ok (.areturn, 1) := by decide +kernel
theorem dJ7_copyOfRangeByte_39247_0 : decode cJ7_copyOfRangeByte_39247 0 = .ok (.iload_n 1, 1) := by decide +kernel
theorem dJ7_copyOfRangeByte_39247_1 : decode cJ7_copyOfRangeByte_39247 1 = .ok (.iload_n 2, 1) := by decide +kernel
theorem dJ7_copyOfRangeByte_39247_2 : decode cJ7_copyOfRangeByte_39247 2 = .ok (.invokestatic 343, 3) := by decide +kernel
theorem dJ7_copyOfRangeByte_39247_5 : decode cJ7_copyOfRangeByte_39247 5 = .ok (.iload_n 2, 1) := by decide +kernel
theorem dJ7_copyOfRangeByte_39247_6 : decode cJ7_copyOfRangeByte_39247 6 = .ok (.iload_n 1, 1) := by decide +kernel
theorem dJ7_copyOfRangeByte_39247_7 : decode cJ7_copyOfRangeByte_39247 7 = .ok (.isub, 1) := by decide +kernel
theorem dJ7_copyOfRangeByte_39247_8 : decode cJ7_copyOfRangeByte_39247 8 = .ok (.istore_n 3, 1) := by decide +kernel
theorem dJ7_copyOfRangeByte_39247_9 : decode cJ7_copyOfRangeByte_39247 9 = .ok (.iload_n 3, 1) := by decide +kernel
theorem dJ7_copyOfRangeByte_39247_10 : decode cJ7_copyOfRangeByte_39247 10 = .ok (.newarray .byte, 2) := by decide +kernel
theorem dJ7_copyOfRangeByte_39247_12 : decode cJ7_copyOfRangeByte_39247 12 = .ok (.astore 4, 2) := by decide +kernel
theorem dJ7_copyOfRangeByte_39247_14 : decode cJ7_copyOfRangeByte_39247 14 = .ok (.aload_n 0, 1) := by decide +kernel
theorem dJ7_copyOfRangeByte_39247_15 : decode cJ7_copyOfRangeByte_39247 15 = .ok (.iload_n 1, 1) := by decide +kernel
theorem dJ7_copyOfRangeByte_39247_16 : decode cJ7_copyOfRangeByte_39247 16 = .ok (.aload 4, 2) := by decide +kernel
theorem dJ7_copyOfRangeByte_39247_18 : decode cJ7_copyOfRangeByte_39247 18 = .ok (.iconst 0, 1) := by decide +kernel
theorem dJ7_copyOfRangeByte_39247_19 : decode cJ7_copyOfRangeByte_39247 19 = .ok (.aload_n 0, 1) := by decide +kernel
theorem dJ7_copyOfRangeByte_39247_20 : decode cJ7_copyOfRangeByte_39247 20 = .ok (.arraylength, 1) := by decide +kernel
theorem dJ7_copyOfRangeByte_39247_21 : decode cJ7_copyOfRangeByte_39247 21 = .ok (.iload_n 1, 1) := by decide +kernel
theorem dJ7_copyOfRangeByte_39247_22 : decode cJ7_copyOfRangeByte_39247 22 = .ok (.isub, 1) := by decide +kernel
theorem dJ7_copyOfRangeByte_39247_23 : decode cJ7_copyOfRangeByte_39247 23 = .ok (.iload_n 3, 1) := by decide +kernel
theorem dJ7_copyOfRangeByte_39247_24 : decode cJ7_copyOfRangeByte_39247 24 = .ok (.invokestatic 304, 3) := by decide +kernel
theorem dJ7_copyOfRangeByte_39247_27 : decode cJ7_copyOfRangeByte_39247 27 = .ok (.invokestatic 150, 3) := by decide +kernel
theorem dJ7_copyOfRangeByte_39247_30 : decode cJ7_copyOfRangeByte_39247 30 = .ok (.aload 4, 2) := by decide +kernel
theorem dJ7_copyOfRangeByte_39247_32 : decode cJ7_copyOfRangeByte_39247 32 = .ok (.areturn, 1) := by decide +kernel
theorem dJ8_newLength_cabcc_0 : decode cJ8_newLength_cabcc 0 = .ok (.iload_n 0, 1) := by decide +kernel
theorem dJ8_newLength_cabcc_1 : decode cJ8_newLength_cabcc 1 = .ok (.iload_n 1, 1) := by decide +kernel
theorem dJ8_newLength_cabcc_2 : decode cJ8_newLength_cabcc 2 = .ok (.iload_n 2, 1) := by decide +kernel
theorem dJ8_newLength_cabcc_3 : decode cJ8_newLength_cabcc 3 = .ok (.invokestatic 194, 3) := by decide +kernel
theorem dJ8_newLength_cabcc_6 : decode cJ8_newLength_cabcc 6 = .ok (.iadd, 1) := by decide +kernel
theorem dJ8_newLength_cabcc_7 : decode cJ8_newLength_cabcc 7 = .ok (.istore_n 3, 1) := by decide +kernel
theorem dJ8_newLength_cabcc_8 : decode cJ8_newLength_cabcc 8 = .ok (.iconst 0, 1) := by decide +kernel
theorem dJ8_newLength_cabcc_9 : decode cJ8_newLength_cabcc 9 = .ok (.iload_n 3, 1) := by decide +kernel
theorem dJ8_newLength_cabcc_10 : decode cJ8_newLength_cabcc 10 = .ok (.if_icmp .ge 11, 3) := by decide +kernel
theorem dJ8_newLength_cabcc_13 : decode cJ8_newLength_cabcc 13 = .ok (.iload_n 3, 1) := by decide +kernel
theorem dJ8_newLength_cabcc_14 : decode cJ8_newLength_cabcc 14 = .ok (.ldc 200, 2) := by decide +kernel
theorem dJ8_newLength_cabcc_16 : decode cJ8_newLength_cabcc 16 = .ok (.if_icmp .gt 5, 3) := by decide +kernel
theorem dJ8_newLength_cabcc_19 : decode cJ8_newLength_cabcc 19 = .ok (.iload_n 3, 1) := by decide +kernel
theorem dJ8_newLength_cabcc_20 : decode cJ8_newLength_cabcc 20 = .ok (.ireturn, 1) := by decide +kernel
theorem dJ8_newLength_cabcc_21 : decode cJ8_newLength_cabcc 21 = .ok (.iload_n 0, 1) := by decide +kernel
theorem dJ8_newLength_cabcc_22 : decode cJ8_newLength_cabcc 22 = .ok (.iload_n 1, 1) := by decide +kernel
theorem dJ8_newLength_cabcc_23 : decode cJ8_newLength_cabcc 23 = .ok (.invokestatic 201, 3) := by decide +kernel
theorem dJ8_newLength_cabcc_26 : decode cJ8_newLength_cabcc 26 = .ok (.ireturn, 1) := by decide +kernel
theorem dJ8_hugeLength_7cf53_0 : decode cJ8_hugeLength_7cf53 0 = .ok (.iload_n 0, 1) := by decide +kernel
theorem dJ8_hugeLength_7cf53_1 : decode cJ8_hugeLength_7cf53 1 = .ok (.iload_n 1, 1) := by decide +kernel
theorem dJ8_hugeLength_7cf53_2 : decode cJ8_hugeLength_7cf53 2 = .ok (.iadd, 1) := by decide +kernel
theorem dJ8_hugeLength_7cf53_3 : decode cJ8_hugeLength_7cf53 3 = .ok (.istore_n 2, 1) := by decide +kernel
theorem dJ8_hugeLength_7cf53_4 : decode cJ8_hugeLength_7cf53 4 = .ok (.iload_n 2, 1) := by decide +kernel
theorem dJ8_hugeLength_7cf53_5 : decode cJ8_hugeLength_7cf53 5 = .ok (.ifCond .ge 44, 3) := by decide +kernel
theorem dJ8_hugeLength_7cf53_8 : decode cJ8_hugeLength_7cf53 8 = .ok (.new 204, 3) := by decide +kernel
theorem dJ8_hugeLength_7cf53_11 : decode cJ8_hugeLength_7cf53 11 = .ok (.dup, 1) := by decide +kernel
theorem dJ8_hugeLength_7cf53_12 : decode cJ8_hugeLength_7cf53 12 = .ok (.new 89, 3) := by decide +kernel
theorem dJ8_hugeLength_7cf53_15 : decode cJ8_hugeLength_7cf53 15 = .ok (.dup, 1) := by decide +kernel
theorem dJ8_hugeLength_7cf53_16 : decode cJ8_hugeLength_7cf53 16 = .ok (.invokespecial 91, 3) := by decide +kernel
theorem dJ8_hugeLength_7cf53_19 : decode cJ8_hugeLength_7cf53 19 = .ok (.ldc 206, 2) := by decide +kernel
theorem dJ8_hugeLength_7cf53_21 : decode cJ8_hugeLength_7cf53 21 = .ok (.invokevirtual 94, 3) := by decide +kernel
theorem dJ8_hugeLength_7cf53_24 : decode cJ8_hugeLength_7cf53 24 = .ok (.iload_n 0, 1) := by decide +kernel
theorem dJ8_hugeLength_7cf53_25 : decode cJ8_hugeLength_7cf53 25 = .ok (.invokevirtual 98, 3) := by decide +kernel
theorem dJ8_hugeLength_7cf53_28 : decode cJ8_hugeLength_7cf53 28 = .ok (.ldc 208, 2) := by decide +kernel
theorem dJ8_hugeLength_7cf53_30 : decode cJ8_hugeLength_7cf53 30 = .ok (.invokevirtual 94, 3) := by decide +kernel
theorem dJ8_hugeLength_7cf53_33 : decode cJ8_hugeLength_7cf53 33 = .ok (.iload_n 1, 1) := by decide +kernel
theorem dJ8_hugeLength_7cf53_34 : decode cJ8_hugeLength_7cf53 34 = .ok (.invokevirtual 98, 3) := by decide +kernel
theorem dJ8_hugeLength_7cf53_37 : decode cJ8_hugeLength_7cf53 37 = .ok (.ldc 210, 2) := by decide +kernel
theorem dJ8_hugeLength_7cf53_39 : decode cJ8_hugeLength_7cf53 39 = .ok (.invokevirtual 94, 3) := by decide +kernel
theorem dJ8_hugeLength_7cf53_42 : decode cJ8_hugeLength_7cf53 42 = .ok (.invokevirtual 101, 3) := by decide +kernel
theorem dJ8_hugeLength_7cf53_45 : decode cJ8_hugeLength_7cf53 45 = .ok (.invokespecial 212, 3) := by decide +kernel
theorem dJ8_hugeLength_7cf53_48 : decode cJ8_hugeLength_7cf53 48 = .ok (.athrow, 1) := by decide +kernel
theorem dJ8_hugeLength_7cf53_49 : decode cJ8_hugeLength_7cf53 49 = .ok (.iload_n 2, 1) := by decide +kernel
theorem dJ8_hugeLength_7cf53_50 : decode cJ8_hugeLength_7cf53 50 = .ok (.ldc 200, 2) := by decide +kernel
theorem dJ8_hugeLength_7cf53_52 : decode cJ8_hugeLength_7cf53 52 = .ok (.if_icmp .gt 6, 3) := by decide +kernel
theorem dJ8_hugeLength_7cf53_55 : decode cJ8_hugeLength_7cf53 55 = .ok (.ldc 200, 2) := by decide +kernel
theorem dJ8_hugeLength_7cf53_57 : decode cJ8_hugeLength_7cf53 57 = .ok (.ireturn, 1) := by decide +kernel
theorem dJ8_hugeLength_7cf53_58 : decode cJ8_hugeLength_7cf53 58 = .ok (.iload_n 2, 1) := by decide +kernel
theorem dJ8_hugeLength_7cf53_59 : decode cJ8_hugeLength_7cf53 59 = .ok (.ireturn, 1) := by decide +kernel
theorem dJ3_checkIndex_8e157_0 : decode cJ3_checkIndex_8e157 0 = .ok (.iload_n 0, 1) := by decide +kernel
theorem dJ3_checkIndex_8e157_1 : decode cJ3_checkIndex_8e157 1 = .ok (.ifCond .lt 8, 3) := by decide +kernel
theorem dJ3_checkIndex_8e157_4 : decode cJ3_checkIndex_8e157 4 = .ok (.iload_n 0, 1) := by decide +kernel
theorem dJ3_checkIndex_8e157_5 : decode cJ3_checkIndex_8e157 5 = .ok (.iload_n 1, 1) := by decide +kernel
theorem dJ3_checkIndex_8e157_6 : decode cJ3_checkIndex_8e157 6 = .ok (.if_icmp .lt 10, 3) := by decide +kernel
theorem dJ3_checkIndex_8e157_9 : decode cJ3_checkIndex_8e157 9 = .ok (.aload_n 2, 1) := by decide +kernel
theorem dJ3_checkIndex_8e157_10 : decode cJ3_checkIndex_8e157 10 = .ok (.iload_n 0, 1) := by decide +kernel
theorem dJ3_checkIndex_8e157_11 : decode cJ3_checkIndex_8e157 11 = .ok (.iload_n 1, 1) := by decide +kernel
theorem dJ3_checkIndex_8e157_12 : decode cJ3_checkIndex_8e157 12 = .ok (.invokestatic 95, 3) := by decide +kernel
theorem dJ3_checkIndex_8e157_15 : decode cJ3_checkIndex_8e157 15 = .ok (.athrow, 1) := by decide +kernel
theorem dJ3_checkIndex_8e157_16 : decode cJ3_checkIndex_8e157 16 = .ok (.iload_n 0, 1) := by decide +kernel
theorem dJ3_checkIndex_8e157_17 : decode cJ3_checkIndex_8e157 17 = .ok (.ireturn, 1) := by decide +kernel
theorem dJ3_checkFromToIndex_8c36e_0 : decode cJ3_checkFromToIndex_8c36e 0 = .ok (.iload_n 0, 1) := by decide +kernel
theorem dJ3_checkFromToIndex_8c36e_1 : decode cJ3_checkFromToIndex_8c36e 1 = .ok (.ifCond .lt 13, 3) := by decide +kernel
theorem dJ3_checkFromToIndex_8c36e_4 : decode cJ3_checkFromToIndex_8c36e 4 = .ok (.iload_n 0, 1) := by decide +kernel
theorem dJ3_checkFromToIndex_8c36e_5 : decode cJ3_checkFromToIndex_8c36e 5 = .ok (.iload_n 1, 1) := by decide +kernel
theorem dJ3_checkFromToIndex_8c36e_6 : decode cJ3_checkFromToIndex_8c36e 6 = .ok (.if_icmp .gt 8, 3) := by decide +kernel
theorem dJ3_checkFromToIndex_8c36e_9 : decode cJ3_checkFromToIndex_8c36e 9 = .ok (.iload_n 1, 1) := by decide +kernel
theorem dJ3_checkFromToIndex_8c36e_10 : decode cJ3_checkFromToIndex_8c36e 10 = .ok (.iload_n 2, 1) := by decide +kernel
theorem dJ3_checkFromToIndex_8c36e_11 : decode cJ3_checkFromToIndex_8c36e 11 = .ok (.if_icmp .le 11, 3) := by decide +kernel
theorem dJ3_checkFromToIndex_8c36e_14 : decode cJ3_checkFromToIndex_8c36e 14 = .ok (.aload_n 3, 1) := by decide +kernel
theorem dJ3_checkFromToIndex_8c36e_15 : decode cJ3_checkFromToIndex_8c36e 15 = .ok (.iload_n 0, 1) := by decide +kernel
theorem dJ3_checkFromToIndex_8c36e_16 : decode cJ3_checkFromToIndex_8c36e 16 = .ok (.iload_n 1, 1) := by decide +kernel
theorem dJ3_checkFromToIndex_8c36e_17 : decode cJ3_checkFromToIndex_8c36e 17 = .ok (.iload_n 2, 1) := by decide +kernel
theorem dJ3_checkFromToIndex_8c36e_18 : decode cJ3_checkFromToIndex_8c36e 18 = .ok (.invokestatic 99, 3) := by decide +kernel
theorem dJ3_checkFromToIndex_8c36e_21 : decode cJ3_checkFromToIndex_8c36e 21 = .ok (.athrow, 1) := by decide +kernel
theorem dJ3_checkFromToIndex_8c36e_22 : decode cJ3_checkFromToIndex_8c36e 22 = .ok (.iload_n 0, 1) := by decide +kernel
theorem dJ3_checkFromToIndex_8c36e_23 : decode cJ3_checkFromToIndex_8c36e 23 = .ok (.ireturn, 1) := by decide +kernel
theorem dJ3_checkFromIndexSize_8c36e_0 : decode cJ3_checkFromIndexSize_8c36e 0 = .ok (.iload_n 2, 1) := by decide +kernel
theorem dJ3_checkFromIndexSize_8c36e_1 : decode cJ3_checkFromIndexSize_8c36e 1 = .ok (.iload_n 0, 1) := by decide +kernel
theorem dJ3_checkFromIndexSize_8c36e_2 : decode cJ3_checkFromIndexSize_8c36e 2 = .ok (.ior, 1) := by decide +kernel
theorem dJ3_checkFromIndexSize_8c36e_3 : decode cJ3_checkFromIndexSize_8c36e 3 = .ok (.iload_n 1, 1) := by decide +kernel
theorem dJ3_checkFromIndexSize_8c36e_4 : decode cJ3_checkFromIndexSize_8c36e 4 = .ok (.ior, 1) := by decide +kernel
theorem dJ3_checkFromIndexSize_8c36e_5 : decode cJ3_checkFromIndexSize_8c36e 5 = .ok (.ifCond .lt 10, 3) := by decide +kernel
theorem dJ3_checkFromIndexSize_8c36e_8 : decode cJ3_checkFromIndexSize_8c36e 8 = .ok (.iload_n 1, 1) := by decide +kernel
theorem dJ3_checkFromIndexSize_8c36e_9 : decode cJ3_checkFromIndexSize_8c36e 9 = .ok (.iload_n 2, 1) := by decide +kernel
theorem dJ3_checkFromIndexSize_8c36e_10 : decode cJ3_checkFromIndexSize_8c36e 10 = .ok (.iload_n 0, 1) := by decide +kernel
theorem dJ3_checkFromIndexSize_8c36e_11 : decode cJ3_checkFromIndexSize_8c36e 11 = .ok (.isub, 1) := by decide +kernel
theorem dJ3_checkFromIndexSize_8c36e_12 : decode cJ3_checkFromIndexSize_8c36e 12 = .ok (.if_icmp .le 11, 3) := by decide +kernel
theorem dJ3_checkFromIndexSize_8c36e_15 : decode cJ3_checkFromIndexSize_8c36e 15 = .ok (.aload_n 3, 1) := by decide +kernel
theorem dJ3_checkFromIndexSize_8c36e_16 : decode cJ3_checkFromIndexSize_8c36e 16 = .ok (.iload_n 0, 1) := by decide +kernel
theorem dJ3_checkFromIndexSize_8c36e_17 : decode cJ3_checkFromIndexSize_8c36e 17 = .ok (.iload_n 1, 1) := by decide +kernel
theorem dJ3_checkFromIndexSize_8c36e_18 : decode cJ3_checkFromIndexSize_8c36e 18 = .ok (.iload_n 2, 1) := by decide +kernel
theorem dJ3_checkFromIndexSize_8c36e_19 : decode cJ3_checkFromIndexSize_8c36e 19 = .ok (.invokestatic 103, 3) := by decide +kernel
theorem dJ3_checkFromIndexSize_8c36e_22 : decode cJ3_checkFromIndexSize_8c36e 22 = .ok (.athrow, 1) := by decide +kernel
theorem dJ3_checkFromIndexSize_8c36e_23 : decode cJ3_checkFromIndexSize_8c36e 23 = .ok (.iload_n 0, 1) := by decide +kernel
theorem dJ3_checkFromIndexSize_8c36e_24 : decode cJ3_checkFromIndexSize_8c36e 24 = .ok (.ireturn, 1) := by decide +kernel
theorem dL_addDoor_0 : decode cL_addDoor 0 = .ok (.aload 4, 2) := by decide +kernel
theorem dL_addDoor_2 : decode cL_addDoor 2 = .ok (.iconst 0, 1) := by decide +kernel
theorem dL_addDoor_3 : decode cL_addDoor 3 = .ok (.aload_n 0, 1) := by decide +kernel
theorem dL_addDoor_4 : decode cL_addDoor 4 = .ok (.iload_n 1, 1) := by decide +kernel
theorem dL_addDoor_5 : decode cL_addDoor 5 = .ok (.iload_n 2, 1) := by decide +kernel
theorem dL_addDoor_6 : decode cL_addDoor 6 = .ok (.iload_n 3, 1) := by decide +kernel
theorem dL_addDoor_7 : decode cL_addDoor 7 = .ok (.invokevirtual 7, 3) := by decide +kernel
theorem dL_addDoor_10 : decode cL_addDoor 10 = .ok (.i2l, 1) := by decide +kernel
theorem dL_addDoor_11 : decode cL_addDoor 11 = .ok (.lastore, 1) := by decide +kernel
theorem dL_addDoor_12 : decode cL_addDoor 12 = .ok (.goto 11, 3) := by decide +kernel
theorem dL_addDoor_15 : decode cL_addDoor 15 = .ok (.astore 5, 2) := by decide +kernel
theorem dL_addDoor_17 : decode cL_addDoor 17 = .ok (.iconst 1, 1) := by decide +kernel
theorem dL_addDoor_18 : decode cL_addDoor 18 = .ok (.ireturn, 1) := by decide +kernel
theorem dL_addDoor_19 : decode cL_addDoor 19 = .ok (.astore 5, 2) := by decide +kernel
theorem dL_addDoor_21 : decode cL_addDoor 21 = .ok (.iconst 2, 1) := by decide +kernel
theorem dL_addDoor_22 : decode cL_addDoor 22 = .ok (.ireturn, 1) := by decide +kernel
theorem dL_addDoor_23 : decode cL_addDoor 23 = .ok (.iconst 0, 1) := by decide +kernel
theorem dL_addDoor_24 : decode cL_addDoor 24 = .ok (.ireturn, 1) := by decide +kernel
theorem dL_turn_0 : decode cL_turn 0 = .ok (.aload 4, 2) := by decide +kernel
theorem dL_turn_2 : decode cL_turn 2 = .ok (.iconst 0, 1) := by decide +kernel
theorem dL_turn_3 : decode cL_turn 3 = .ok (.aload_n 0, 1) := by decide +kernel
theorem dL_turn_4 : decode cL_turn 4 = .ok (.iload_n 1, 1) := by decide +kernel
theorem dL_turn_5 : decode cL_turn 5 = .ok (.iload_n 2, 1) := by decide +kernel
theorem dL_turn_6 : decode cL_turn 6 = .ok (.iload_n 3, 1) := by decide +kernel
theorem dL_turn_7 : decode cL_turn 7 = .ok (.invokevirtual 17, 3) := by decide +kernel
theorem dL_turn_10 : decode cL_turn 10 = .ok (.i2l, 1) := by decide +kernel
theorem dL_turn_11 : decode cL_turn 11 = .ok (.lastore, 1) := by decide +kernel
theorem dL_turn_12 : decode cL_turn 12 = .ok (.goto 15, 3) := by decide +kernel
theorem dL_turn_15 : decode cL_turn 15 = .ok (.astore 5, 2) := by decide +kernel
theorem dL_turn_17 : decode cL_turn 17 = .ok (.iconst 1, 1) := by decide +kernel
theorem dL_turn_18 : decode cL_turn 18 = .ok (.ireturn, 1) := by decide +kernel
theorem dL_turn_19 : decode cL_turn 19 = .ok (.astore 5, 2) := by decide +kernel
theorem dL_turn_21 : decode cL_turn 21 = .ok (.iconst 2, 1) := by decide +kernel
theorem dL_turn_22 : decode cL_turn 22 = .ok (.ireturn, 1) := by decide +kernel
theorem dL_turn_23 : decode cL_turn 23 = .ok (.astore 5, 2) := by decide +kernel
theorem dL_turn_25 : decode cL_turn 25 = .ok (.iconst 3, 1) := by decide +kernel
theorem dL_turn_26 : decode cL_turn 26 = .ok (.ireturn, 1) := by decide +kernel
theorem dL_turn_27 : decode cL_turn 27 = .ok (.iconst 0, 1) := by decide +kernel
theorem dL_turn_28 : decode cL_turn 28 = .ok (.ireturn, 1) := by decide +kernel
theorem dL_tryLock_0 : decode cL_tryLock 0 = .ok (.aload_n 2, 1) := by decide +kernel
theorem dL_tryLock_1 : decode cL_tryLock 1 = .ok (.iconst 0, 1) := by decide +kernel
theorem dL_tryLock_2 : decode cL_tryLock 2 = .ok (.aload_n 0, 1) := by decide +kernel
theorem dL_tryLock_3 : decode cL_tryLock 3 = .ok (.iload_n 1, 1) := by decide +kernel
theorem dL_tryLock_4 : decode cL_tryLock 4 = .ok (.invokevirtual 22, 3) := by decide +kernel
theorem dL_tryLock_7 : decode cL_tryLock 7 = .ok (.ifCond .eq 7, 3) := by decide +kernel
theorem dL_tryLock_10 : decode cL_tryLock 10 = .ok (.lconst 1, 1) := by decide +kernel
theorem dL_tryLock_11 : decode cL_tryLock 11 = .ok (.goto 4, 3) := by decide +kernel
theorem dL_tryLock_14 : decode cL_tryLock 14 = .ok (.lconst 0, 1) := by decide +kernel
theorem dL_tryLock_15 : decode cL_tryLock 15 = .ok (.lastore, 1) := by decide +kernel
theorem dL_tryLock_16 : decode cL_tryLock 16 = .ok (.goto 9, 3) := by decide +kernel
theorem dL_tryLock_19 : decode cL_tryLock 19 = .ok (.astore_n 3, 1) := by decide +kernel
theorem dL_tryLock_20 : decode cL_tryLock 20 = .ok (.iconst 1, 1) := by decide +kernel
theorem dL_tryLock_21 : decode cL_tryLock 21 = .ok (.ireturn, 1) := by decide +kernel
theorem dL_tryLock_22 : decode cL_tryLock 22 = .ok (.astore_n 3, 1) := by decide +kernel
theorem dL_tryLock_23 : decode cL_tryLock 23 = .ok (.iconst 2, 1) := by decide +kernel
theorem dL_tryLock_24 : decode cL_tryLock 24 = .ok (.ireturn, 1) := by decide +kernel
theorem dL_tryLock_25 : decode cL_tryLock 25 = .ok (.iconst 0, 1) := by decide +kernel
theorem dL_tryLock_26 : decode cL_tryLock 26 = .ok (.ireturn, 1) := by decide +kernel
theorem dL_shut_0 : decode cL_shut 0 = .ok (.aload_n 2, 1) := by decide +kernel
theorem dL_shut_1 : decode cL_shut 1 = .ok (.iconst 0, 1) := by decide +kernel
theorem dL_shut_2 : decode cL_shut 2 = .ok (.aload_n 0, 1) := by decide +kernel
theorem dL_shut_3 : decode cL_shut 3 = .ok (.iload_n 1, 1) := by decide +kernel
theorem dL_shut_4 : decode cL_shut 4 = .ok (.invokevirtual 26, 3) := by decide +kernel
theorem dL_shut_7 : decode cL_shut 7 = .ok (.i2l, 1) := by decide +kernel
theorem dL_shut_8 : decode cL_shut 8 = .ok (.lastore, 1) := by decide +kernel
theorem dL_shut_9 : decode cL_shut 9 = .ok (.goto 12, 3) := by decide +kernel
theorem dL_shut_12 : decode cL_shut 12 = .ok (.astore_n 3, 1) := by decide +kernel
theorem dL_shut_13 : decode cL_shut 13 = .ok (.iconst 1, 1) := by decide +kernel
theorem dL_shut_14 : decode cL_shut 14 = .ok (.ireturn, 1) := by decide +kernel
theorem dL_shut_15 : decode cL_shut 15 = .ok (.astore_n 3, 1) := by decide +kernel
theorem dL_shut_16 : decode cL_shut 16 = .ok (.iconst 2, 1) := by decide +kernel
theorem dL_shut_17 : decode cL_shut 17 = .ok (.ireturn, 1) := by decide +kernel
theorem dL_shut_18 : decode cL_shut 18 = .ok (.astore_n 3, 1) := by decide +kernel
theorem dL_shut_19 : decode cL_shut 19 = .ok (.iconst 3, 1) := by decide +kernel
theorem dL_shut_20 : decode cL_shut 20 = .ok (.ireturn, 1) := by decide +kernel
theorem dL_shut_21 : decode cL_shut 21 = .ok (.iconst 0, 1) := by decide +kernel
theorem dL_shut_22 : decode cL_shut 22 = .ok (.ireturn, 1) := by decide +kernel
theorem dL_setCombination_0 : decode cL_setCombination 0 = .ok (.aload 5, 2) := by decide +kernel
theorem dL_setCombination_2 : decode cL_setCombination 2 = .ok (.iconst 0, 1) := by decide +kernel
theorem dL_setCombination_3 : decode cL_setCombination 3 = .ok (.aload_n 0, 1) := by decide +kernel
theorem dL_setCombination_4 : decode cL_setCombination 4 = .ok (.iload_n 1, 1) := by decide +kernel
theorem dL_setCombination_5 : decode cL_setCombination 5 = .ok (.iload_n 2, 1) := by decide +kernel
theorem dL_setCombination_6 : decode cL_setCombination 6 = .ok (.iload_n 3, 1) := by decide +kernel
theorem dL_setCombination_7 : decode cL_setCombination 7 = .ok (.iload 4, 2) := by decide +kernel
theorem dL_setCombination_9 : decode cL_setCombination 9 = .ok (.invokevirtual 32, 3) := by decide +kernel
theorem dL_setCombination_12 : decode cL_setCombination 12 = .ok (.i2l, 1) := by decide +kernel
theorem dL_setCombination_13 : decode cL_setCombination 13 = .ok (.lastore, 1) := by decide +kernel
theorem dL_setCombination_14 : decode cL_setCombination 14 = .ok (.goto 15, 3) := by decide +kernel
theorem dL_setCombination_17 : decode cL_setCombination 17 = .ok (.astore 6, 2) := by decide +kernel
theorem dL_setCombination_19 : decode cL_setCombination 19 = .ok (.iconst 1, 1) := by decide +kernel
theorem dL_setCombination_20 : decode cL_setCombination 20 = .ok (.ireturn, 1) := by decide +kernel
theorem dL_setCombination_21 : decode cL_setCombination 21 = .ok (.astore 6, 2) := by decide +kernel
theorem dL_setCombination_23 : decode cL_setCombination 23 = .ok (.iconst 2, 1) := by decide +kernel
theorem dL_setCombination_24 : decode cL_setCombination 24 = .ok (.ireturn, 1) := by decide +kernel
theorem dL_setCombination_25 : decode cL_setCombination 25 = .ok (.astore 6, 2) := by decide +kernel
theorem dL_setCombination_27 : decode cL_setCombination 27 = .ok (.iconst 3, 1) := by decide +kernel
theorem dL_setCombination_28 : decode cL_setCombination 28 = .ok (.ireturn, 1) := by decide +kernel
theorem dL_setCombination_29 : decode cL_setCombination 29 = .ok (.iconst 0, 1) := by decide +kernel
theorem dL_setCombination_30 : decode cL_setCombination 30 = .ok (.ireturn, 1) := by decide +kernel
theorem dL_setDamp_0 : decode cL_setDamp 0 = .ok (.aload_n 2, 1) := by decide +kernel
theorem dL_setDamp_1 : decode cL_setDamp 1 = .ok (.iconst 0, 1) := by decide +kernel
theorem dL_setDamp_2 : decode cL_setDamp 2 = .ok (.aload_n 0, 1) := by decide +kernel
theorem dL_setDamp_3 : decode cL_setDamp 3 = .ok (.iload_n 1, 1) := by decide +kernel
theorem dL_setDamp_4 : decode cL_setDamp 4 = .ok (.invokevirtual 36, 3) := by decide +kernel
theorem dL_setDamp_7 : decode cL_setDamp 7 = .ok (.i2l, 1) := by decide +kernel
theorem dL_setDamp_8 : decode cL_setDamp 8 = .ok (.lastore, 1) := by decide +kernel
theorem dL_setDamp_9 : decode cL_setDamp 9 = .ok (.goto 6, 3) := by decide +kernel
theorem dL_setDamp_12 : decode cL_setDamp 12 = .ok (.astore_n 3, 1) := by decide +kernel
theorem dL_setDamp_13 : decode cL_setDamp 13 = .ok (.iconst 1, 1) := by decide +kernel
theorem dL_setDamp_14 : decode cL_setDamp 14 = .ok (.ireturn, 1) := by decide +kernel
theorem dL_setDamp_15 : decode cL_setDamp 15 = .ok (.iconst 0, 1) := by decide +kernel
theorem dL_setDamp_16 : decode cL_setDamp 16 = .ok (.ireturn, 1) := by decide +kernel
theorem dL_bake_0 : decode cL_bake 0 = .ok (.aload_n 3, 1) := by decide +kernel
theorem dL_bake_1 : decode cL_bake 1 = .ok (.iconst 0, 1) := by decide +kernel
theorem dL_bake_2 : decode cL_bake 2 = .ok (.aload_n 0, 1) := by decide +kernel
theorem dL_bake_3 : decode cL_bake 3 = .ok (.iload_n 1, 1) := by decide +kernel
theorem dL_bake_4 : decode cL_bake 4 = .ok (.iload_n 2, 1) := by decide +kernel
theorem dL_bake_5 : decode cL_bake 5 = .ok (.invokevirtual 39, 3) := by decide +kernel
theorem dL_bake_8 : decode cL_bake 8 = .ok (.i2l, 1) := by decide +kernel
theorem dL_bake_9 : decode cL_bake 9 = .ok (.lastore, 1) := by decide +kernel
theorem dL_bake_10 : decode cL_bake 10 = .ok (.goto 15, 3) := by decide +kernel
theorem dL_bake_13 : decode cL_bake 13 = .ok (.astore 4, 2) := by decide +kernel
theorem dL_bake_15 : decode cL_bake 15 = .ok (.iconst 1, 1) := by decide +kernel
theorem dL_bake_16 : decode cL_bake 16 = .ok (.ireturn, 1) := by decide +kernel
theorem dL_bake_17 : decode cL_bake 17 = .ok (.astore 4, 2) := by decide +kernel
theorem dL_bake_19 : decode cL_bake 19 = .ok (.iconst 2, 1) := by decide +kernel
theorem dL_bake_20 : decode cL_bake 20 = .ok (.ireturn, 1) := by decide +kernel
theorem dL_bake_21 : decode cL_bake 21 = .ok (.astore 4, 2) := by decide +kernel
theorem dL_bake_23 : decode cL_bake 23 = .ok (.iconst 3, 1) := by decide +kernel
theorem dL_bake_24 : decode cL_bake 24 = .ok (.ireturn, 1) := by decide +kernel
theorem dL_bake_25 : decode cL_bake 25 = .ok (.iconst 0, 1) := by decide +kernel
theorem dL_bake_26 : decode cL_bake 26 = .ok (.ireturn, 1) := by decide +kernel
theorem dL_passHours_0 : decode cL_passHours 0 = .ok (.aload_n 2, 1) := by decide +kernel
theorem dL_passHours_1 : decode cL_passHours 1 = .ok (.iconst 0, 1) := by decide +kernel
theorem dL_passHours_2 : decode cL_passHours 2 = .ok (.aload_n 0, 1) := by decide +kernel
theorem dL_passHours_3 : decode cL_passHours 3 = .ok (.iload_n 1, 1) := by decide +kernel
theorem dL_passHours_4 : decode cL_passHours 4 = .ok (.invokevirtual 43, 3) := by decide +kernel
theorem dL_passHours_7 : decode cL_passHours 7 = .ok (.i2l, 1) := by decide +kernel
theorem dL_passHours_8 : decode cL_passHours 8 = .ok (.lastore, 1) := by decide +kernel
theorem dL_passHours_9 : decode cL_passHours 9 = .ok (.goto 6, 3) := by decide +kernel
theorem dL_passHours_12 : decode cL_passHours 12 = .ok (.astore_n 3, 1) := by decide +kernel
theorem dL_passHours_13 : decode cL_passHours 13 = .ok (.iconst 1, 1) := by decide +kernel
theorem dL_passHours_14 : decode cL_passHours 14 = .ok (.ireturn, 1) := by decide +kernel
theorem dL_passHours_15 : decode cL_passHours 15 = .ok (.iconst 0, 1) := by decide +kernel
theorem dL_passHours_16 : decode cL_passHours 16 = .ok (.ireturn, 1) := by decide +kernel
theorem dL_dial_0 : decode cL_dial 0 = .ok (.aload_n 3, 1) := by decide +kernel
theorem dL_dial_1 : decode cL_dial 1 = .ok (.iconst 0, 1) := by decide +kernel
theorem dL_dial_2 : decode cL_dial 2 = .ok (.aload_n 0, 1) := by decide +kernel
theorem dL_dial_3 : decode cL_dial 3 = .ok (.iload_n 1, 1) := by decide +kernel
theorem dL_dial_4 : decode cL_dial 4 = .ok (.iload_n 2, 1) := by decide +kernel
theorem dL_dial_5 : decode cL_dial 5 = .ok (.invokevirtual 46, 3) := by decide +kernel
theorem dL_dial_8 : decode cL_dial 8 = .ok (.i2l, 1) := by decide +kernel
theorem dL_dial_9 : decode cL_dial 9 = .ok (.lastore, 1) := by decide +kernel
theorem dL_dial_10 : decode cL_dial 10 = .ok (.goto 7, 3) := by decide +kernel
theorem dL_dial_13 : decode cL_dial 13 = .ok (.astore 4, 2) := by decide +kernel
theorem dL_dial_15 : decode cL_dial 15 = .ok (.iconst 1, 1) := by decide +kernel
theorem dL_dial_16 : decode cL_dial 16 = .ok (.ireturn, 1) := by decide +kernel
theorem dL_dial_17 : decode cL_dial 17 = .ok (.iconst 0, 1) := by decide +kernel
theorem dL_dial_18 : decode cL_dial 18 = .ok (.ireturn, 1) := by decide +kernel
theorem dL_combination_0 : decode cL_combination 0 = .ok (.aload_n 3, 1) := by decide +kernel
theorem dL_combination_1 : decode cL_combination 1 = .ok (.iconst 0, 1) := by decide +kernel
theorem dL_combination_2 : decode cL_combination 2 = .ok (.aload_n 0, 1) := by decide +kernel
theorem dL_combination_3 : decode cL_combination 3 = .ok (.iload_n 1, 1) := by decide +kernel
theorem dL_combination_4 : decode cL_combination 4 = .ok (.iload_n 2, 1) := by decide +kernel
theorem dL_combination_5 : decode cL_combination 5 = .ok (.invokevirtual 49, 3) := by decide +kernel
theorem dL_combination_8 : decode cL_combination 8 = .ok (.i2l, 1) := by decide +kernel
theorem dL_combination_9 : decode cL_combination 9 = .ok (.lastore, 1) := by decide +kernel
theorem dL_combination_10 : decode cL_combination 10 = .ok (.goto 7, 3) := by decide +kernel
theorem dL_combination_13 : decode cL_combination 13 = .ok (.astore 4, 2) := by decide +kernel
theorem dL_combination_15 : decode cL_combination 15 = .ok (.iconst 1, 1) := by decide +kernel
theorem dL_combination_16 : decode cL_combination 16 = .ok (.ireturn, 1) := by decide +kernel
theorem dL_combination_17 : decode cL_combination 17 = .ok (.iconst 0, 1) := by decide +kernel
theorem dL_combination_18 : decode cL_combination 18 = .ok (.ireturn, 1) := by decide +kernel
theorem dL_isOpen_0 : decode cL_isOpen 0 = .ok (.aload_n 2, 1) := by decide +kernel
theorem dL_isOpen_1 : decode cL_isOpen 1 = .ok (.iconst 0, 1) := by decide +kernel
theorem dL_isOpen_2 : decode cL_isOpen 2 = .ok (.aload_n 0, 1) := by decide +kernel
theorem dL_isOpen_3 : decode cL_isOpen 3 = .ok (.iload_n 1, 1) := by decide +kernel
theorem dL_isOpen_4 : decode cL_isOpen 4 = .ok (.invokevirtual 52, 3) := by decide +kernel
theorem dL_isOpen_7 : decode cL_isOpen 7 = .ok (.ifCond .eq 7, 3) := by decide +kernel
theorem dL_isOpen_10 : decode cL_isOpen 10 = .ok (.lconst 1, 1) := by decide +kernel
theorem dL_isOpen_11 : decode cL_isOpen 11 = .ok (.goto 4, 3) := by decide +kernel
theorem dL_isOpen_14 : decode cL_isOpen 14 = .ok (.lconst 0, 1) := by decide +kernel
theorem dL_isOpen_15 : decode cL_isOpen 15 = .ok (.lastore, 1) := by decide +kernel
theorem dL_isOpen_16 : decode cL_isOpen 16 = .ok (.goto 6, 3) := by decide +kernel
theorem dL_isOpen_19 : decode cL_isOpen 19 = .ok (.astore_n 3, 1) := by decide +kernel
theorem dL_isOpen_20 : decode cL_isOpen 20 = .ok (.iconst 1, 1) := by decide +kernel
theorem dL_isOpen_21 : decode cL_isOpen 21 = .ok (.ireturn, 1) := by decide +kernel
theorem dL_isOpen_22 : decode cL_isOpen 22 = .ok (.iconst 0, 1) := by decide +kernel
theorem dL_isOpen_23 : decode cL_isOpen 23 = .ok (.ireturn, 1) := by decide +kernel
theorem dL_isBroken_0 : decode cL_isBroken 0 = .ok (.aload_n 2, 1) := by decide +kernel
theorem dL_isBroken_1 : decode cL_isBroken 1 = .ok (.iconst 0, 1) := by decide +kernel
theorem dL_isBroken_2 : decode cL_isBroken 2 = .ok (.aload_n 0, 1) := by decide +kernel
theorem dL_isBroken_3 : decode cL_isBroken 3 = .ok (.iload_n 1, 1) := by decide +kernel
theorem dL_isBroken_4 : decode cL_isBroken 4 = .ok (.invokevirtual 55, 3) := by decide +kernel
theorem dL_isBroken_7 : decode cL_isBroken 7 = .ok (.ifCond .eq 7, 3) := by decide +kernel
theorem dL_isBroken_10 : decode cL_isBroken 10 = .ok (.lconst 1, 1) := by decide +kernel
theorem dL_isBroken_11 : decode cL_isBroken 11 = .ok (.goto 4, 3) := by decide +kernel
theorem dL_isBroken_14 : decode cL_isBroken 14 = .ok (.lconst 0, 1) := by decide +kernel
theorem dL_isBroken_15 : decode cL_isBroken 15 = .ok (.lastore, 1) := by decide +kernel
theorem dL_isBroken_16 : decode cL_isBroken 16 = .ok (.goto 6, 3) := by decide +kernel
theorem dL_isBroken_19 : decode cL_isBroken 19 = .ok (.astore_n 3, 1) := by decide +kernel
theorem dL_isBroken_20 : decode cL_isBroken 20 = .ok (.iconst 1, 1) := by decide +kernel
theorem dL_isBroken_21 : decode cL_isBroken 21 = .ok (.ireturn, 1) := by decide +kernel
theorem dL_isBroken_22 : decode cL_isBroken 22 = .ok (.iconst 0, 1) := by decide +kernel
theorem dL_isBroken_23 : decode cL_isBroken 23 = .ok (.ireturn, 1) := by decide +kernel
theorem dL_crumbs_0 : decode cL_crumbs 0 = .ok (.aload_n 2, 1) := by decide +kernel
theorem dL_crumbs_1 : decode cL_crumbs 1 = .ok (.iconst 0, 1) := by decide +kernel
theorem dL_crumbs_2 : decode cL_crumbs 2 = .ok (.aload_n 0, 1) := by decide +kernel
theorem dL_crumbs_3 : decode cL_crumbs 3 = .ok (.iload_n 1, 1) := by decide +kernel
theorem dL_crumbs_4 : decode cL_crumbs 4 = .ok (.invokevirtual 58, 3) := by decide +kernel
theorem dL_crumbs_7 : decode cL_crumbs 7 = .ok (.i2l, 1) := by decide +kernel
theorem dL_crumbs_8 : decode cL_crumbs 8 = .ok (.lastore, 1) := by decide +kernel
theorem dL_crumbs_9 : decode cL_crumbs 9 = .ok (.goto 6, 3) := by decide +kernel
theorem dL_crumbs_12 : decode cL_crumbs 12 = .ok (.astore_n 3, 1) := by decide +kernel
theorem dL_crumbs_13 : decode cL_crumbs 13 = .ok (.iconst 1, 1) := by decide +kernel
theorem dL_crumbs_14 : decode cL_crumbs 14 = .ok (.ireturn, 1) := by decide +kernel
theorem dL_crumbs_15 : decode cL_crumbs 15 = .ok (.iconst 0, 1) := by decide +kernel
theorem dL_crumbs_16 : decode cL_crumbs 16 = .ok (.ireturn, 1) := by decide +kernel
theorem dL_play_0 : decode cL_play 0 = .ok (.aload_n 2, 1) := by decide +kernel
theorem dL_play_1 : decode cL_play 1 = .ok (.iconst 0, 1) := by decide +kernel
theorem dL_play_2 : decode cL_play 2 = .ok (.aload_n 0, 1) := by decide +kernel
theorem dL_play_3 : decode cL_play 3 = .ok (.iload_n 1, 1) := by decide +kernel
theorem dL_play_4 : decode cL_play 4 = .ok (.invokevirtual 61, 3) := by decide +kernel
theorem dL_play_7 : decode cL_play 7 = .ok (.i2l, 1) := by decide +kernel
theorem dL_play_8 : decode cL_play 8 = .ok (.lastore, 1) := by decide +kernel
theorem dL_play_9 : decode cL_play 9 = .ok (.goto 6, 3) := by decide +kernel
theorem dL_play_12 : decode cL_play 12 = .ok (.astore_n 3, 1) := by decide +kernel
theorem dL_play_13 : decode cL_play 13 = .ok (.iconst 1, 1) := by decide +kernel
theorem dL_play_14 : decode cL_play 14 = .ok (.ireturn, 1) := by decide +kernel
theorem dL_play_15 : decode cL_play 15 = .ok (.iconst 0, 1) := by decide +kernel
theorem dL_play_16 : decode cL_play 16 = .ok (.ireturn, 1) := by decide +kernel
theorem dL_fittingDials_0 : decode cL_fittingDials 0 = .ok (.aload_n 2, 1) := by decide +kernel
theorem dL_fittingDials_1 : decode cL_fittingDials 1 = .ok (.iconst 0, 1) := by decide +kernel
theorem dL_fittingDials_2 : decode cL_fittingDials 2 = .ok (.aload_n 0, 1) := by decide +kernel
theorem dL_fittingDials_3 : decode cL_fittingDials 3 = .ok (.iload_n 1, 1) := by decide +kernel
theorem dL_fittingDials_4 : decode cL_fittingDials 4 = .ok (.invokevirtual 64, 3) := by decide +kernel
theorem dL_fittingDials_7 : decode cL_fittingDials 7 = .ok (.i2l, 1) := by decide +kernel
theorem dL_fittingDials_8 : decode cL_fittingDials 8 = .ok (.lastore, 1) := by decide +kernel
theorem dL_fittingDials_9 : decode cL_fittingDials 9 = .ok (.goto 6, 3) := by decide +kernel
theorem dL_fittingDials_12 : decode cL_fittingDials 12 = .ok (.astore_n 3, 1) := by decide +kernel
theorem dL_fittingDials_13 : decode cL_fittingDials 13 = .ok (.iconst 1, 1) := by decide +kernel
theorem dL_fittingDials_14 : decode cL_fittingDials 14 = .ok (.ireturn, 1) := by decide +kernel
theorem dL_fittingDials_15 : decode cL_fittingDials 15 = .ok (.iconst 0, 1) := by decide +kernel
theorem dL_fittingDials_16 : decode cL_fittingDials 16 = .ok (.ireturn, 1) := by decide +kernel
theorem dL_stepsToOpen_0 : decode cL_stepsToOpen 0 = .ok (.aload_n 2, 1) := by decide +kernel
theorem dL_stepsToOpen_1 : decode cL_stepsToOpen 1 = .ok (.iconst 0, 1) := by decide +kernel
theorem dL_stepsToOpen_2 : decode cL_stepsToOpen 2 = .ok (.aload_n 0, 1) := by decide +kernel
theorem dL_stepsToOpen_3 : decode cL_stepsToOpen 3 = .ok (.iload_n 1, 1) := by decide +kernel
theorem dL_stepsToOpen_4 : decode cL_stepsToOpen 4 = .ok (.invokevirtual 67, 3) := by decide +kernel
theorem dL_stepsToOpen_7 : decode cL_stepsToOpen 7 = .ok (.i2l, 1) := by decide +kernel
theorem dL_stepsToOpen_8 : decode cL_stepsToOpen 8 = .ok (.lastore, 1) := by decide +kernel
theorem dL_stepsToOpen_9 : decode cL_stepsToOpen 9 = .ok (.goto 6, 3) := by decide +kernel
theorem dL_stepsToOpen_12 : decode cL_stepsToOpen 12 = .ok (.astore_n 3, 1) := by decide +kernel
theorem dL_stepsToOpen_13 : decode cL_stepsToOpen 13 = .ok (.iconst 1, 1) := by decide +kernel
theorem dL_stepsToOpen_14 : decode cL_stepsToOpen 14 = .ok (.ireturn, 1) := by decide +kernel
theorem dL_stepsToOpen_15 : decode cL_stepsToOpen 15 = .ok (.iconst 0, 1) := by decide +kernel
theorem dL_stepsToOpen_16 : decode cL_stepsToOpen 16 = .ok (.ireturn, 1) := by decide +kernel
theorem dL_stepsToOpenByTurning_0 : decode cL_stepsToOpenByTurning 0 = .ok (.aload_n 2, 1) := by decide +kernel
theorem dL_stepsToOpenByTurning_1 : decode cL_stepsToOpenByTurning 1 = .ok (.iconst 0, 1) := by decide +kernel
theorem dL_stepsToOpenByTurning_2 : decode cL_stepsToOpenByTurning 2 = .ok (.aload_n 0, 1) := by decide +kernel
theorem dL_stepsToOpenByTurning_3 : decode cL_stepsToOpenByTurning 3 = .ok (.iload_n 1, 1) := by decide +kernel
theorem dL_stepsToOpenByTurning_4 : decode cL_stepsToOpenByTurning 4 = .ok (.invokevirtual 70, 3) := by decide +kernel
theorem dL_stepsToOpenByTurning_7 : decode cL_stepsToOpenByTurning 7 = .ok (.i2l, 1) := by decide +kernel
theorem dL_stepsToOpenByTurning_8 : decode cL_stepsToOpenByTurning 8 = .ok (.lastore, 1) := by decide +kernel
theorem dL_stepsToOpenByTurning_9 : decode cL_stepsToOpenByTurning 9 = .ok (.goto 6, 3) := by decide +kernel
theorem dL_stepsToOpenByTurning_12 : decode cL_stepsToOpenByTurning 12 = .ok (.astore_n 3, 1) := by decide +kernel
theorem dL_stepsToOpenByTurning_13 : decode cL_stepsToOpenByTurning 13 = .ok (.iconst 1, 1) := by decide +kernel
theorem dL_stepsToOpenByTurning_14 : decode cL_stepsToOpenByTurning 14 = .ok (.ireturn, 1) := by decide +kernel
theorem dL_stepsToOpenByTurning_15 : decode cL_stepsToOpenByTurning 15 = .ok (.iconst 0, 1) := by decide +kernel
theorem dL_stepsToOpenByTurning_16 : decode cL_stepsToOpenByTurning 16 = .ok (.ireturn, 1) := by decide +kernel
theorem dL_openingSettings_0 : decode cL_openingSettings 0 = .ok (.aload_n 2, 1) := by decide +kernel
theorem dL_openingSettings_1 : decode cL_openingSettings 1 = .ok (.iconst 0, 1) := by decide +kernel
theorem dL_openingSettings_2 : decode cL_openingSettings 2 = .ok (.aload_n 0, 1) := by decide +kernel
theorem dL_openingSettings_3 : decode cL_openingSettings 3 = .ok (.iload_n 1, 1) := by decide +kernel
theorem dL_openingSettings_4 : decode cL_openingSettings 4 = .ok (.invokevirtual 73, 3) := by decide +kernel
theorem dL_openingSettings_7 : decode cL_openingSettings 7 = .ok (.i2l, 1) := by decide +kernel
theorem dL_openingSettings_8 : decode cL_openingSettings 8 = .ok (.lastore, 1) := by decide +kernel
theorem dL_openingSettings_9 : decode cL_openingSettings 9 = .ok (.goto 6, 3) := by decide +kernel
theorem dL_openingSettings_12 : decode cL_openingSettings 12 = .ok (.astore_n 3, 1) := by decide +kernel
theorem dL_openingSettings_13 : decode cL_openingSettings 13 = .ok (.iconst 1, 1) := by decide +kernel
theorem dL_openingSettings_14 : decode cL_openingSettings 14 = .ok (.ireturn, 1) := by decide +kernel
theorem dL_openingSettings_15 : decode cL_openingSettings 15 = .ok (.iconst 0, 1) := by decide +kernel
theorem dL_openingSettings_16 : decode cL_openingSettings 16 = .ok (.ireturn, 1) := by decide +kernel
theorem dL_triesUntilBroken_0 : decode cL_triesUntilBroken 0 = .ok (.aload_n 2, 1) := by decide +kernel
theorem dL_triesUntilBroken_1 : decode cL_triesUntilBroken 1 = .ok (.iconst 0, 1) := by decide +kernel
theorem dL_triesUntilBroken_2 : decode cL_triesUntilBroken 2 = .ok (.aload_n 0, 1) := by decide +kernel
theorem dL_triesUntilBroken_3 : decode cL_triesUntilBroken 3 = .ok (.iload_n 1, 1) := by decide +kernel
theorem dL_triesUntilBroken_4 : decode cL_triesUntilBroken 4 = .ok (.invokevirtual 76, 3) := by decide +kernel
theorem dL_triesUntilBroken_7 : decode cL_triesUntilBroken 7 = .ok (.i2l, 1) := by decide +kernel
theorem dL_triesUntilBroken_8 : decode cL_triesUntilBroken 8 = .ok (.lastore, 1) := by decide +kernel
theorem dL_triesUntilBroken_9 : decode cL_triesUntilBroken 9 = .ok (.goto 9, 3) := by decide +kernel
theorem dL_triesUntilBroken_12 : decode cL_triesUntilBroken 12 = .ok (.astore_n 3, 1) := by decide +kernel
theorem dL_triesUntilBroken_13 : decode cL_triesUntilBroken 13 = .ok (.iconst 1, 1) := by decide +kernel
theorem dL_triesUntilBroken_14 : decode cL_triesUntilBroken 14 = .ok (.ireturn, 1) := by decide +kernel
theorem dL_triesUntilBroken_15 : decode cL_triesUntilBroken 15 = .ok (.astore_n 3, 1) := by decide +kernel
theorem dL_triesUntilBroken_16 : decode cL_triesUntilBroken 16 = .ok (.iconst 2, 1) := by decide +kernel
theorem dL_triesUntilBroken_17 : decode cL_triesUntilBroken 17 = .ok (.ireturn, 1) := by decide +kernel
theorem dL_triesUntilBroken_18 : decode cL_triesUntilBroken 18 = .ok (.iconst 0, 1) := by decide +kernel
theorem dL_triesUntilBroken_19 : decode cL_triesUntilBroken 19 = .ok (.ireturn, 1) := by decide +kernel
theorem dL_dialAfter_0 : decode cL_dialAfter 0 = .ok (.aload 4, 2) := by decide +kernel
theorem dL_dialAfter_2 : decode cL_dialAfter 2 = .ok (.iconst 0, 1) := by decide +kernel
theorem dL_dialAfter_3 : decode cL_dialAfter 3 = .ok (.aload_n 0, 1) := by decide +kernel
theorem dL_dialAfter_4 : decode cL_dialAfter 4 = .ok (.iload_n 1, 1) := by decide +kernel
theorem dL_dialAfter_5 : decode cL_dialAfter 5 = .ok (.iload_n 2, 1) := by decide +kernel
theorem dL_dialAfter_6 : decode cL_dialAfter 6 = .ok (.iload_n 3, 1) := by decide +kernel
theorem dL_dialAfter_7 : decode cL_dialAfter 7 = .ok (.invokevirtual 81, 3) := by decide +kernel
theorem dL_dialAfter_10 : decode cL_dialAfter 10 = .ok (.i2l, 1) := by decide +kernel
theorem dL_dialAfter_11 : decode cL_dialAfter 11 = .ok (.lastore, 1) := by decide +kernel
theorem dL_dialAfter_12 : decode cL_dialAfter 12 = .ok (.goto 11, 3) := by decide +kernel
theorem dL_dialAfter_15 : decode cL_dialAfter 15 = .ok (.astore 5, 2) := by decide +kernel
theorem dL_dialAfter_17 : decode cL_dialAfter 17 = .ok (.iconst 1, 1) := by decide +kernel
theorem dL_dialAfter_18 : decode cL_dialAfter 18 = .ok (.ireturn, 1) := by decide +kernel
theorem dL_dialAfter_19 : decode cL_dialAfter 19 = .ok (.astore 5, 2) := by decide +kernel
theorem dL_dialAfter_21 : decode cL_dialAfter 21 = .ok (.iconst 2, 1) := by decide +kernel
theorem dL_dialAfter_22 : decode cL_dialAfter 22 = .ok (.ireturn, 1) := by decide +kernel
theorem dL_dialAfter_23 : decode cL_dialAfter 23 = .ok (.iconst 0, 1) := by decide +kernel
theorem dL_dialAfter_24 : decode cL_dialAfter 24 = .ok (.ireturn, 1) := by decide +kernel
theorem dL_hoursUntilFitting_0 : decode cL_hoursUntilFitting 0 = .ok (.aload_n 2, 1) := by decide +kernel
theorem dL_hoursUntilFitting_1 : decode cL_hoursUntilFitting 1 = .ok (.iconst 0, 1) := by decide +kernel
theorem dL_hoursUntilFitting_2 : decode cL_hoursUntilFitting 2 = .ok (.aload_n 0, 1) := by decide +kernel
theorem dL_hoursUntilFitting_3 : decode cL_hoursUntilFitting 3 = .ok (.iload_n 1, 1) := by decide +kernel
theorem dL_hoursUntilFitting_4 : decode cL_hoursUntilFitting 4 = .ok (.invokevirtual 84, 3) := by decide +kernel
theorem dL_hoursUntilFitting_7 : decode cL_hoursUntilFitting 7 = .ok (.i2l, 1) := by decide +kernel
theorem dL_hoursUntilFitting_8 : decode cL_hoursUntilFitting 8 = .ok (.lastore, 1) := by decide +kernel
theorem dL_hoursUntilFitting_9 : decode cL_hoursUntilFitting 9 = .ok (.goto 9, 3) := by decide +kernel
theorem dL_hoursUntilFitting_12 : decode cL_hoursUntilFitting 12 = .ok (.astore_n 3, 1) := by decide +kernel
theorem dL_hoursUntilFitting_13 : decode cL_hoursUntilFitting 13 = .ok (.iconst 1, 1) := by decide +kernel
theorem dL_hoursUntilFitting_14 : decode cL_hoursUntilFitting 14 = .ok (.ireturn, 1) := by decide +kernel
theorem dL_hoursUntilFitting_15 : decode cL_hoursUntilFitting 15 = .ok (.astore_n 3, 1) := by decide +kernel
theorem dL_hoursUntilFitting_16 : decode cL_hoursUntilFitting 16 = .ok (.iconst 2, 1) := by decide +kernel
theorem dL_hoursUntilFitting_17 : decode cL_hoursUntilFitting 17 = .ok (.ireturn, 1) := by decide +kernel
theorem dL_hoursUntilFitting_18 : decode cL_hoursUntilFitting 18 = .ok (.iconst 0, 1) := by decide +kernel
theorem dL_hoursUntilFitting_19 : decode cL_hoursUntilFitting 19 = .ok (.ireturn, 1) := by decide +kernel
theorem dL_bakedDoor_0 : decode cL_bakedDoor 0 = .ok (.aload_n 2, 1) := by decide +kernel
theorem dL_bakedDoor_1 : decode cL_bakedDoor 1 = .ok (.iconst 0, 1) := by decide +kernel
theorem dL_bakedDoor_2 : decode cL_bakedDoor 2 = .ok (.aload_n 0, 1) := by decide +kernel
theorem dL_bakedDoor_3 : decode cL_bakedDoor 3 = .ok (.iload_n 1, 1) := by decide +kernel
theorem dL_bakedDoor_4 : decode cL_bakedDoor 4 = .ok (.invokevirtual 87, 3) := by decide +kernel
theorem dL_bakedDoor_7 : decode cL_bakedDoor 7 = .ok (.i2l, 1) := by decide +kernel
theorem dL_bakedDoor_8 : decode cL_bakedDoor 8 = .ok (.lastore, 1) := by decide +kernel
theorem dL_bakedDoor_9 : decode cL_bakedDoor 9 = .ok (.goto 9, 3) := by decide +kernel
theorem dL_bakedDoor_12 : decode cL_bakedDoor 12 = .ok (.astore_n 3, 1) := by decide +kernel
theorem dL_bakedDoor_13 : decode cL_bakedDoor 13 = .ok (.iconst 1, 1) := by decide +kernel
theorem dL_bakedDoor_14 : decode cL_bakedDoor 14 = .ok (.ireturn, 1) := by decide +kernel
theorem dL_bakedDoor_15 : decode cL_bakedDoor 15 = .ok (.astore_n 3, 1) := by decide +kernel
theorem dL_bakedDoor_16 : decode cL_bakedDoor 16 = .ok (.iconst 2, 1) := by decide +kernel
theorem dL_bakedDoor_17 : decode cL_bakedDoor 17 = .ok (.ireturn, 1) := by decide +kernel
theorem dL_bakedDoor_18 : decode cL_bakedDoor 18 = .ok (.iconst 0, 1) := by decide +kernel
theorem dL_bakedDoor_19 : decode cL_bakedDoor 19 = .ok (.ireturn, 1) := by decide +kernel
theorem dL_bakingHours_0 : decode cL_bakingHours 0 = .ok (.aload_n 2, 1) := by decide +kernel
theorem dL_bakingHours_1 : decode cL_bakingHours 1 = .ok (.iconst 0, 1) := by decide +kernel
theorem dL_bakingHours_2 : decode cL_bakingHours 2 = .ok (.aload_n 0, 1) := by decide +kernel
theorem dL_bakingHours_3 : decode cL_bakingHours 3 = .ok (.iload_n 1, 1) := by decide +kernel
theorem dL_bakingHours_4 : decode cL_bakingHours 4 = .ok (.invokevirtual 90, 3) := by decide +kernel
theorem dL_bakingHours_7 : decode cL_bakingHours 7 = .ok (.i2l, 1) := by decide +kernel
theorem dL_bakingHours_8 : decode cL_bakingHours 8 = .ok (.lastore, 1) := by decide +kernel
theorem dL_bakingHours_9 : decode cL_bakingHours 9 = .ok (.goto 6, 3) := by decide +kernel
theorem dL_bakingHours_12 : decode cL_bakingHours 12 = .ok (.astore_n 3, 1) := by decide +kernel
theorem dL_bakingHours_13 : decode cL_bakingHours 13 = .ok (.iconst 1, 1) := by decide +kernel
theorem dL_bakingHours_14 : decode cL_bakingHours 14 = .ok (.ireturn, 1) := by decide +kernel
theorem dL_bakingHours_15 : decode cL_bakingHours 15 = .ok (.iconst 0, 1) := by decide +kernel
theorem dL_bakingHours_16 : decode cL_bakingHours 16 = .ok (.ireturn, 1) := by decide +kernel
theorem dL_isBaking_0 : decode cL_isBaking 0 = .ok (.aload_n 2, 1) := by decide +kernel
theorem dL_isBaking_1 : decode cL_isBaking 1 = .ok (.iconst 0, 1) := by decide +kernel
theorem dL_isBaking_2 : decode cL_isBaking 2 = .ok (.aload_n 0, 1) := by decide +kernel
theorem dL_isBaking_3 : decode cL_isBaking 3 = .ok (.iload_n 1, 1) := by decide +kernel
theorem dL_isBaking_4 : decode cL_isBaking 4 = .ok (.invokevirtual 93, 3) := by decide +kernel
theorem dL_isBaking_7 : decode cL_isBaking 7 = .ok (.ifCond .eq 7, 3) := by decide +kernel
theorem dL_isBaking_10 : decode cL_isBaking 10 = .ok (.lconst 1, 1) := by decide +kernel
theorem dL_isBaking_11 : decode cL_isBaking 11 = .ok (.goto 4, 3) := by decide +kernel
theorem dL_isBaking_14 : decode cL_isBaking 14 = .ok (.lconst 0, 1) := by decide +kernel
theorem dL_isBaking_15 : decode cL_isBaking 15 = .ok (.lastore, 1) := by decide +kernel
theorem dL_isBaking_16 : decode cL_isBaking 16 = .ok (.goto 6, 3) := by decide +kernel
theorem dL_isBaking_19 : decode cL_isBaking 19 = .ok (.astore_n 3, 1) := by decide +kernel
theorem dL_isBaking_20 : decode cL_isBaking 20 = .ok (.iconst 1, 1) := by decide +kernel
theorem dL_isBaking_21 : decode cL_isBaking 21 = .ok (.ireturn, 1) := by decide +kernel
theorem dL_isBaking_22 : decode cL_isBaking 22 = .ok (.iconst 0, 1) := by decide +kernel
theorem dL_isBaking_23 : decode cL_isBaking 23 = .ok (.ireturn, 1) := by decide +kernel
theorem dL_doorByCrumbs_0 : decode cL_doorByCrumbs 0 = .ok (.aload_n 2, 1) := by decide +kernel
theorem dL_doorByCrumbs_1 : decode cL_doorByCrumbs 1 = .ok (.iconst 0, 1) := by decide +kernel
theorem dL_doorByCrumbs_2 : decode cL_doorByCrumbs 2 = .ok (.aload_n 0, 1) := by decide +kernel
theorem dL_doorByCrumbs_3 : decode cL_doorByCrumbs 3 = .ok (.iload_n 1, 1) := by decide +kernel
theorem dL_doorByCrumbs_4 : decode cL_doorByCrumbs 4 = .ok (.invokevirtual 96, 3) := by decide +kernel
theorem dL_doorByCrumbs_7 : decode cL_doorByCrumbs 7 = .ok (.i2l, 1) := by decide +kernel
theorem dL_doorByCrumbs_8 : decode cL_doorByCrumbs 8 = .ok (.lastore, 1) := by decide +kernel
theorem dL_doorByCrumbs_9 : decode cL_doorByCrumbs 9 = .ok (.goto 6, 3) := by decide +kernel
theorem dL_doorByCrumbs_12 : decode cL_doorByCrumbs 12 = .ok (.astore_n 3, 1) := by decide +kernel
theorem dL_doorByCrumbs_13 : decode cL_doorByCrumbs 13 = .ok (.iconst 1, 1) := by decide +kernel
theorem dL_doorByCrumbs_14 : decode cL_doorByCrumbs 14 = .ok (.ireturn, 1) := by decide +kernel
theorem dL_doorByCrumbs_15 : decode cL_doorByCrumbs 15 = .ok (.iconst 0, 1) := by decide +kernel
theorem dL_doorByCrumbs_16 : decode cL_doorByCrumbs 16 = .ok (.ireturn, 1) := by decide +kernel
theorem dL_triedDoor_0 : decode cL_triedDoor 0 = .ok (.aload_n 2, 1) := by decide +kernel
theorem dL_triedDoor_1 : decode cL_triedDoor 1 = .ok (.iconst 0, 1) := by decide +kernel
theorem dL_triedDoor_2 : decode cL_triedDoor 2 = .ok (.aload_n 0, 1) := by decide +kernel
theorem dL_triedDoor_3 : decode cL_triedDoor 3 = .ok (.iload_n 1, 1) := by decide +kernel
theorem dL_triedDoor_4 : decode cL_triedDoor 4 = .ok (.invokevirtual 99, 3) := by decide +kernel
theorem dL_triedDoor_7 : decode cL_triedDoor 7 = .ok (.i2l, 1) := by decide +kernel
theorem dL_triedDoor_8 : decode cL_triedDoor 8 = .ok (.lastore, 1) := by decide +kernel
theorem dL_triedDoor_9 : decode cL_triedDoor 9 = .ok (.goto 6, 3) := by decide +kernel
theorem dL_triedDoor_12 : decode cL_triedDoor 12 = .ok (.astore_n 3, 1) := by decide +kernel
theorem dL_triedDoor_13 : decode cL_triedDoor 13 = .ok (.iconst 1, 1) := by decide +kernel
theorem dL_triedDoor_14 : decode cL_triedDoor 14 = .ok (.ireturn, 1) := by decide +kernel
theorem dL_triedDoor_15 : decode cL_triedDoor 15 = .ok (.iconst 0, 1) := by decide +kernel
theorem dL_triedDoor_16 : decode cL_triedDoor 16 = .ok (.ireturn, 1) := by decide +kernel
theorem dL_didOpen_0 : decode cL_didOpen 0 = .ok (.aload_n 2, 1) := by decide +kernel
theorem dL_didOpen_1 : decode cL_didOpen 1 = .ok (.iconst 0, 1) := by decide +kernel
theorem dL_didOpen_2 : decode cL_didOpen 2 = .ok (.aload_n 0, 1) := by decide +kernel
theorem dL_didOpen_3 : decode cL_didOpen 3 = .ok (.iload_n 1, 1) := by decide +kernel
theorem dL_didOpen_4 : decode cL_didOpen 4 = .ok (.invokevirtual 102, 3) := by decide +kernel
theorem dL_didOpen_7 : decode cL_didOpen 7 = .ok (.ifCond .eq 7, 3) := by decide +kernel
theorem dL_didOpen_10 : decode cL_didOpen 10 = .ok (.lconst 1, 1) := by decide +kernel
theorem dL_didOpen_11 : decode cL_didOpen 11 = .ok (.goto 4, 3) := by decide +kernel
theorem dL_didOpen_14 : decode cL_didOpen 14 = .ok (.lconst 0, 1) := by decide +kernel
theorem dL_didOpen_15 : decode cL_didOpen 15 = .ok (.lastore, 1) := by decide +kernel
theorem dL_didOpen_16 : decode cL_didOpen 16 = .ok (.goto 6, 3) := by decide +kernel
theorem dL_didOpen_19 : decode cL_didOpen 19 = .ok (.astore_n 3, 1) := by decide +kernel
theorem dL_didOpen_20 : decode cL_didOpen 20 = .ok (.iconst 1, 1) := by decide +kernel
theorem dL_didOpen_21 : decode cL_didOpen 21 = .ok (.ireturn, 1) := by decide +kernel
theorem dL_didOpen_22 : decode cL_didOpen 22 = .ok (.iconst 0, 1) := by decide +kernel
theorem dL_didOpen_23 : decode cL_didOpen 23 = .ok (.ireturn, 1) := by decide +kernel
theorem dL_meanCrumbs_0 : decode cL_meanCrumbs 0 = .ok (.aload_n 1, 1) := by decide +kernel
theorem dL_meanCrumbs_1 : decode cL_meanCrumbs 1 = .ok (.iconst 0, 1) := by decide +kernel
theorem dL_meanCrumbs_2 : decode cL_meanCrumbs 2 = .ok (.aload_n 0, 1) := by decide +kernel
theorem dL_meanCrumbs_3 : decode cL_meanCrumbs 3 = .ok (.invokevirtual 105, 3) := by decide +kernel
theorem dL_meanCrumbs_6 : decode cL_meanCrumbs 6 = .ok (.dastore, 1) := by decide +kernel
theorem dL_meanCrumbs_7 : decode cL_meanCrumbs 7 = .ok (.goto 6, 3) := by decide +kernel
theorem dL_meanCrumbs_10 : decode cL_meanCrumbs 10 = .ok (.astore_n 2, 1) := by decide +kernel
theorem dL_meanCrumbs_11 : decode cL_meanCrumbs 11 = .ok (.iconst 1, 1) := by decide +kernel
theorem dL_meanCrumbs_12 : decode cL_meanCrumbs 12 = .ok (.ireturn, 1) := by decide +kernel
theorem dL_meanCrumbs_13 : decode cL_meanCrumbs 13 = .ok (.iconst 0, 1) := by decide +kernel
theorem dL_meanCrumbs_14 : decode cL_meanCrumbs 14 = .ok (.ireturn, 1) := by decide +kernel
theorem dL_openedShare_0 : decode cL_openedShare 0 = .ok (.aload_n 1, 1) := by decide +kernel
theorem dL_openedShare_1 : decode cL_openedShare 1 = .ok (.iconst 0, 1) := by decide +kernel
theorem dL_openedShare_2 : decode cL_openedShare 2 = .ok (.aload_n 0, 1) := by decide +kernel
theorem dL_openedShare_3 : decode cL_openedShare 3 = .ok (.invokevirtual 111, 3) := by decide +kernel
theorem dL_openedShare_6 : decode cL_openedShare 6 = .ok (.f2d, 1) := by decide +kernel
theorem dL_openedShare_7 : decode cL_openedShare 7 = .ok (.dastore, 1) := by decide +kernel
theorem dL_openedShare_8 : decode cL_openedShare 8 = .ok (.goto 6, 3) := by decide +kernel
theorem dL_openedShare_11 : decode cL_openedShare 11 = .ok (.astore_n 2, 1) := by decide +kernel
theorem dL_openedShare_12 : decode cL_openedShare 12 = .ok (.iconst 1, 1) := by decide +kernel
theorem dL_openedShare_13 : decode cL_openedShare 13 = .ok (.ireturn, 1) := by decide +kernel
theorem dL_openedShare_14 : decode cL_openedShare 14 = .ok (.iconst 0, 1) := by decide +kernel
theorem dL_openedShare_15 : decode cL_openedShare 15 = .ok (.ireturn, 1) := by decide +kernel
theorem dL_renderLock_0 : decode cL_renderLock 0 = .ok (.aload_n 2, 1) := by decide +kernel
theorem dL_renderLock_1 : decode cL_renderLock 1 = .ok (.iconst 0, 1) := by decide +kernel
theorem dL_renderLock_2 : decode cL_renderLock 2 = .ok (.aload_n 0, 1) := by decide +kernel
theorem dL_renderLock_3 : decode cL_renderLock 3 = .ok (.iload_n 1, 1) := by decide +kernel
theorem dL_renderLock_4 : decode cL_renderLock 4 = .ok (.invokevirtual 115, 3) := by decide +kernel
theorem dL_renderLock_7 : decode cL_renderLock 7 = .ok (.i2l, 1) := by decide +kernel
theorem dL_renderLock_8 : decode cL_renderLock 8 = .ok (.lastore, 1) := by decide +kernel
theorem dL_renderLock_9 : decode cL_renderLock 9 = .ok (.goto 6, 3) := by decide +kernel
theorem dL_renderLock_12 : decode cL_renderLock 12 = .ok (.astore_n 3, 1) := by decide +kernel
theorem dL_renderLock_13 : decode cL_renderLock 13 = .ok (.iconst 1, 1) := by decide +kernel
theorem dL_renderLock_14 : decode cL_renderLock 14 = .ok (.ireturn, 1) := by decide +kernel
theorem dL_renderLock_15 : decode cL_renderLock 15 = .ok (.iconst 0, 1) := by decide +kernel
theorem dL_renderLock_16 : decode cL_renderLock 16 = .ok (.ireturn, 1) := by decide +kernel
theorem dL_outputAt_0 : decode cL_outputAt 0 = .ok (.aload_n 2, 1) := by decide +kernel
theorem dL_outputAt_1 : decode cL_outputAt 1 = .ok (.iconst 0, 1) := by decide +kernel
theorem dL_outputAt_2 : decode cL_outputAt 2 = .ok (.aload_n 0, 1) := by decide +kernel
theorem dL_outputAt_3 : decode cL_outputAt 3 = .ok (.iload_n 1, 1) := by decide +kernel
theorem dL_outputAt_4 : decode cL_outputAt 4 = .ok (.invokevirtual 118, 3) := by decide +kernel
theorem dL_outputAt_7 : decode cL_outputAt 7 = .ok (.i2l, 1) := by decide +kernel
theorem dL_outputAt_8 : decode cL_outputAt 8 = .ok (.lastore, 1) := by decide +kernel
theorem dL_outputAt_9 : decode cL_outputAt 9 = .ok (.goto 6, 3) := by decide +kernel
theorem dL_outputAt_12 : decode cL_outputAt 12 = .ok (.astore_n 3, 1) := by decide +kernel
theorem dL_outputAt_13 : decode cL_outputAt 13 = .ok (.iconst 1, 1) := by decide +kernel
theorem dL_outputAt_14 : decode cL_outputAt 14 = .ok (.ireturn, 1) := by decide +kernel
theorem dL_outputAt_15 : decode cL_outputAt 15 = .ok (.iconst 0, 1) := by decide +kernel
theorem dL_outputAt_16 : decode cL_outputAt 16 = .ok (.ireturn, 1) := by decide +kernel
theorem dL_type_0 : decode cL_type 0 = .ok (.aload_n 2, 1) := by decide +kernel
theorem dL_type_1 : decode cL_type 1 = .ok (.iconst 0, 1) := by decide +kernel
theorem dL_type_2 : decode cL_type 2 = .ok (.aload_n 0, 1) := by decide +kernel
theorem dL_type_3 : decode cL_type 3 = .ok (.iload_n 1, 1) := by decide +kernel
theorem dL_type_4 : decode cL_type 4 = .ok (.invokevirtual 122, 3) := by decide +kernel
theorem dL_type_7 : decode cL_type 7 = .ok (.i2l, 1) := by decide +kernel
theorem dL_type_8 : decode cL_type 8 = .ok (.lastore, 1) := by decide +kernel
theorem dL_type_9 : decode cL_type 9 = .ok (.goto 9, 3) := by decide +kernel
theorem dL_type_12 : decode cL_type 12 = .ok (.astore_n 3, 1) := by decide +kernel
theorem dL_type_13 : decode cL_type 13 = .ok (.iconst 1, 1) := by decide +kernel
theorem dL_type_14 : decode cL_type 14 = .ok (.ireturn, 1) := by decide +kernel
theorem dL_type_15 : decode cL_type 15 = .ok (.astore_n 3, 1) := by decide +kernel
theorem dL_type_16 : decode cL_type 16 = .ok (.iconst 2, 1) := by decide +kernel
theorem dL_type_17 : decode cL_type 17 = .ok (.ireturn, 1) := by decide +kernel
theorem dL_type_18 : decode cL_type 18 = .ok (.iconst 0, 1) := by decide +kernel
theorem dL_type_19 : decode cL_type 19 = .ok (.ireturn, 1) := by decide +kernel
theorem dL_runScript_0 : decode cL_runScript 0 = .ok (.aload_n 1, 1) := by decide +kernel
theorem dL_runScript_1 : decode cL_runScript 1 = .ok (.iconst 0, 1) := by decide +kernel
theorem dL_runScript_2 : decode cL_runScript 2 = .ok (.aload_n 0, 1) := by decide +kernel
theorem dL_runScript_3 : decode cL_runScript 3 = .ok (.invokevirtual 126, 3) := by decide +kernel
theorem dL_runScript_6 : decode cL_runScript 6 = .ok (.i2l, 1) := by decide +kernel
theorem dL_runScript_7 : decode cL_runScript 7 = .ok (.lastore, 1) := by decide +kernel
theorem dL_runScript_8 : decode cL_runScript 8 = .ok (.goto 9, 3) := by decide +kernel
theorem dL_runScript_11 : decode cL_runScript 11 = .ok (.astore_n 2, 1) := by decide +kernel
theorem dL_runScript_12 : decode cL_runScript 12 = .ok (.iconst 1, 1) := by decide +kernel
theorem dL_runScript_13 : decode cL_runScript 13 = .ok (.ireturn, 1) := by decide +kernel
theorem dL_runScript_14 : decode cL_runScript 14 = .ok (.astore_n 2, 1) := by decide +kernel
theorem dL_runScript_15 : decode cL_runScript 15 = .ok (.iconst 2, 1) := by decide +kernel
theorem dL_runScript_16 : decode cL_runScript 16 = .ok (.ireturn, 1) := by decide +kernel
theorem dL_runScript_17 : decode cL_runScript 17 = .ok (.iconst 0, 1) := by decide +kernel
theorem dL_runScript_18 : decode cL_runScript 18 = .ok (.ireturn, 1) := by decide +kernel
theorem dL_errorPosition_0 : decode cL_errorPosition 0 = .ok (.aload_n 1, 1) := by decide +kernel
theorem dL_errorPosition_1 : decode cL_errorPosition 1 = .ok (.iconst 0, 1) := by decide +kernel
theorem dL_errorPosition_2 : decode cL_errorPosition 2 = .ok (.aload_n 0, 1) := by decide +kernel
theorem dL_errorPosition_3 : decode cL_errorPosition 3 = .ok (.invokevirtual 130, 3) := by decide +kernel
theorem dL_errorPosition_6 : decode cL_errorPosition 6 = .ok (.i2l, 1) := by decide +kernel
theorem dL_errorPosition_7 : decode cL_errorPosition 7 = .ok (.lastore, 1) := by decide +kernel
theorem dL_errorPosition_8 : decode cL_errorPosition 8 = .ok (.goto 6, 3) := by decide +kernel
theorem dL_errorPosition_11 : decode cL_errorPosition 11 = .ok (.astore_n 2, 1) := by decide +kernel
theorem dL_errorPosition_12 : decode cL_errorPosition 12 = .ok (.iconst 1, 1) := by decide +kernel
theorem dL_errorPosition_13 : decode cL_errorPosition 13 = .ok (.ireturn, 1) := by decide +kernel
theorem dL_errorPosition_14 : decode cL_errorPosition 14 = .ok (.iconst 0, 1) := by decide +kernel
theorem dL_errorPosition_15 : decode cL_errorPosition 15 = .ok (.ireturn, 1) := by decide +kernel
theorem dL_failedCommand_0 : decode cL_failedCommand 0 = .ok (.aload_n 1, 1) := by decide +kernel
theorem dL_failedCommand_1 : decode cL_failedCommand 1 = .ok (.iconst 0, 1) := by decide +kernel
theorem dL_failedCommand_2 : decode cL_failedCommand 2 = .ok (.aload_n 0, 1) := by decide +kernel
theorem dL_failedCommand_3 : decode cL_failedCommand 3 = .ok (.invokevirtual 133, 3) := by decide +kernel
theorem dL_failedCommand_6 : decode cL_failedCommand 6 = .ok (.i2l, 1) := by decide +kernel
theorem dL_failedCommand_7 : decode cL_failedCommand 7 = .ok (.lastore, 1) := by decide +kernel
theorem dL_failedCommand_8 : decode cL_failedCommand 8 = .ok (.goto 6, 3) := by decide +kernel
theorem dL_failedCommand_11 : decode cL_failedCommand 11 = .ok (.astore_n 2, 1) := by decide +kernel
theorem dL_failedCommand_12 : decode cL_failedCommand 12 = .ok (.iconst 1, 1) := by decide +kernel
theorem dL_failedCommand_13 : decode cL_failedCommand 13 = .ok (.ireturn, 1) := by decide +kernel
theorem dL_failedCommand_14 : decode cL_failedCommand 14 = .ok (.iconst 0, 1) := by decide +kernel
theorem dL_failedCommand_15 : decode cL_failedCommand 15 = .ok (.ireturn, 1) := by decide +kernel
theorem dL_undo_0 : decode cL_undo 0 = .ok (.aload_n 1, 1) := by decide +kernel
theorem dL_undo_1 : decode cL_undo 1 = .ok (.iconst 0, 1) := by decide +kernel
theorem dL_undo_2 : decode cL_undo 2 = .ok (.aload_n 0, 1) := by decide +kernel
theorem dL_undo_3 : decode cL_undo 3 = .ok (.invokevirtual 136, 3) := by decide +kernel
theorem dL_undo_6 : decode cL_undo 6 = .ok (.i2l, 1) := by decide +kernel
theorem dL_undo_7 : decode cL_undo 7 = .ok (.lastore, 1) := by decide +kernel
theorem dL_undo_8 : decode cL_undo 8 = .ok (.goto 6, 3) := by decide +kernel
theorem dL_undo_11 : decode cL_undo 11 = .ok (.astore_n 2, 1) := by decide +kernel
theorem dL_undo_12 : decode cL_undo 12 = .ok (.iconst 1, 1) := by decide +kernel
theorem dL_undo_13 : decode cL_undo 13 = .ok (.ireturn, 1) := by decide +kernel
theorem dL_undo_14 : decode cL_undo 14 = .ok (.iconst 0, 1) := by decide +kernel
theorem dL_undo_15 : decode cL_undo 15 = .ok (.ireturn, 1) := by decide +kernel
theorem dL_restore_0 : decode cL_restore 0 = .ok (.aload_n 1, 1) := by decide +kernel
theorem dL_restore_1 : decode cL_restore 1 = .ok (.iconst 0, 1) := by decide +kernel
theorem dL_restore_2 : decode cL_restore 2 = .ok (.aload_n 0, 1) := by decide +kernel
theorem dL_restore_3 : decode cL_restore 3 = .ok (.invokevirtual 139, 3) := by decide +kernel
theorem dL_restore_6 : decode cL_restore 6 = .ok (.i2l, 1) := by decide +kernel
theorem dL_restore_7 : decode cL_restore 7 = .ok (.lastore, 1) := by decide +kernel
theorem dL_restore_8 : decode cL_restore 8 = .ok (.goto 6, 3) := by decide +kernel
theorem dL_restore_11 : decode cL_restore 11 = .ok (.astore_n 2, 1) := by decide +kernel
theorem dL_restore_12 : decode cL_restore 12 = .ok (.iconst 1, 1) := by decide +kernel
theorem dL_restore_13 : decode cL_restore 13 = .ok (.ireturn, 1) := by decide +kernel
theorem dL_restore_14 : decode cL_restore 14 = .ok (.iconst 0, 1) := by decide +kernel
theorem dL_restore_15 : decode cL_restore 15 = .ok (.ireturn, 1) := by decide +kernel
theorem dL_law_0 : decode cL_law 0 = .ok (.new 8, 3) := by decide +kernel
theorem dL_law_3 : decode cL_law 3 = .ok (.dup, 1) := by decide +kernel
theorem dL_law_4 : decode cL_law 4 = .ok (.invokespecial 142, 3) := by decide +kernel
theorem dL_law_7 : decode cL_law 7 = .ok (.astore_n 1, 1) := by decide +kernel
theorem dL_law_8 : decode cL_law 8 = .ok (.new 143, 3) := by decide +kernel
theorem dL_law_11 : decode cL_law 11 = .ok (.dup, 1) := by decide +kernel
theorem dL_law_12 : decode cL_law 12 = .ok (.invokespecial 145, 3) := by decide +kernel
theorem dL_law_15 : decode cL_law 15 = .ok (.astore_n 2, 1) := by decide +kernel
theorem dL_law_16 : decode cL_law 16 = .ok (.iconst 1, 1) := by decide +kernel
theorem dL_law_17 : decode cL_law 17 = .ok (.newarray .long, 2) := by decide +kernel
theorem dL_law_19 : decode cL_law 19 = .ok (.astore_n 3, 1) := by decide +kernel
theorem dL_law_20 : decode cL_law 20 = .ok (.iconst 1, 1) := by decide +kernel
theorem dL_law_21 : decode cL_law 21 = .ok (.newarray .double, 2) := by decide +kernel
theorem dL_law_23 : decode cL_law 23 = .ok (.astore 4, 2) := by decide +kernel
theorem dL_law_25 : decode cL_law 25 = .ok (.iconst 0, 1) := by decide +kernel
theorem dL_law_26 : decode cL_law 26 = .ok (.istore 5, 2) := by decide +kernel
theorem dL_law_28 : decode cL_law 28 = .ok (.iload 5, 2) := by decide +kernel
theorem dL_law_30 : decode cL_law 30 = .ok (.aload_n 0, 1) := by decide +kernel
theorem dL_law_31 : decode cL_law 31 = .ok (.arraylength, 1) := by decide +kernel
theorem dL_law_32 : decode cL_law 32 = .ok (.iconst 5, 1) := by decide +kernel
theorem dL_law_33 : decode cL_law 33 = .ok (.isub, 1) := by decide +kernel
theorem dL_law_34 : decode cL_law 34 = .ok (.if_icmp .gt 2596, 3) := by decide +kernel
theorem dL_law_37 : decode cL_law 37 = .ok (.aload_n 0, 1) := by decide +kernel
theorem dL_law_38 : decode cL_law 38 = .ok (.iload 5, 2) := by decide +kernel
theorem dL_law_40 : decode cL_law 40 = .ok (.iaload, 1) := by decide +kernel
theorem dL_law_41 : decode cL_law 41 = .ok (.bipush 63, 2) := by decide +kernel
theorem dL_law_43 : decode cL_law 43 = .ok (.iand, 1) := by decide +kernel
theorem dL_law_44 : decode cL_law 44 = .ok (.tableswitch 2580 0 48 #[212, 292, 372, 435, 491, 583, 639, 707, 763, 776, 844, 912, 975, 1038, 1094, 1150, 1206, 1262, 1318, 1374, 1430, 1510, 1566, 1622, 1678, 1741, 1797, 1810, 1866, 1929, 1942, 1955, 1968, 1981, 1994, 2007, 2020, 2085, 2151, 2164, 2220, 2233, 2289, 2347, 2391, 2435, 2479, 2523, 2536], 212) := by decide +kernel
theorem dL_law_256 : decode cL_law 256 = .ok (.aload_n 1, 1) := by decide +kernel
theorem dL_law_257 : decode cL_law 257 = .ok (.aload_n 0, 1) := by decide +kernel
theorem dL_law_258 : decode cL_law 258 = .ok (.iload 5, 2) := by decide +kernel
theorem dL_law_260 : decode cL_law 260 = .ok (.iconst 1, 1) := by decide +kernel
theorem dL_law_261 : decode cL_law 261 = .ok (.iadd, 1) := by decide +kernel
theorem dL_law_262 : decode cL_law 262 = .ok (.iaload, 1) := by decide +kernel
theorem dL_law_263 : decode cL_law 263 = .ok (.aload_n 0, 1) := by decide +kernel
theorem dL_law_264 : decode cL_law 264 = .ok (.iload 5, 2) := by decide +kernel
theorem dL_law_266 : decode cL_law 266 = .ok (.iconst 2, 1) := by decide +kernel
theorem dL_law_267 : decode cL_law 267 = .ok (.iadd, 1) := by decide +kernel
theorem dL_law_268 : decode cL_law 268 = .ok (.iaload, 1) := by decide +kernel
theorem dL_law_269 : decode cL_law 269 = .ok (.aload_n 0, 1) := by decide +kernel
theorem dL_law_270 : decode cL_law 270 = .ok (.iload 5, 2) := by decide +kernel
theorem dL_law_272 : decode cL_law 272 = .ok (.iconst 3, 1) := by decide +kernel
theorem dL_law_273 : decode cL_law 273 = .ok (.iadd, 1) := by decide +kernel
theorem dL_law_274 : decode cL_law 274 = .ok (.iaload, 1) := by decide +kernel
theorem dL_law_275 : decode cL_law 275 = .ok (.aload_n 3, 1) := by decide +kernel
theorem dL_law_276 : decode cL_law 276 = .ok (.invokestatic 146, 3) := by decide +kernel
theorem dL_law_279 : decode cL_law 279 = .ok (.istore 6, 2) := by decide +kernel
theorem dL_law_281 : decode cL_law 281 = .ok (.aload_n 2, 1) := by decide +kernel
theorem dL_law_282 : decode cL_law 282 = .ok (.aload_n 0, 1) := by decide +kernel
theorem dL_law_283 : decode cL_law 283 = .ok (.iload 5, 2) := by decide +kernel
theorem dL_law_285 : decode cL_law 285 = .ok (.iconst 1, 1) := by decide +kernel
theorem dL_law_286 : decode cL_law 286 = .ok (.iadd, 1) := by decide +kernel
theorem dL_law_287 : decode cL_law 287 = .ok (.iaload, 1) := by decide +kernel
theorem dL_law_288 : decode cL_law 288 = .ok (.aload_n 0, 1) := by decide +kernel
theorem dL_law_289 : decode cL_law 289 = .ok (.iload 5, 2) := by decide +kernel
theorem dL_law_291 : decode cL_law 291 = .ok (.iconst 2, 1) := by decide +kernel
theorem dL_law_292 : decode cL_law 292 = .ok (.iadd, 1) := by decide +kernel
theorem dL_law_293 : decode cL_law 293 = .ok (.iaload, 1) := by decide +kernel
theorem dL_law_294 : decode cL_law 294 = .ok (.aload_n 0, 1) := by decide +kernel
theorem dL_law_295 : decode cL_law 295 = .ok (.iload 5, 2) := by decide +kernel
theorem dL_law_297 : decode cL_law 297 = .ok (.iconst 3, 1) := by decide +kernel
theorem dL_law_298 : decode cL_law 298 = .ok (.iadd, 1) := by decide +kernel
theorem dL_law_299 : decode cL_law 299 = .ok (.iaload, 1) := by decide +kernel
theorem dL_law_300 : decode cL_law 300 = .ok (.invokevirtual 151, 3) := by decide +kernel
theorem dL_law_303 : decode cL_law 303 = .ok (.istore 7, 2) := by decide +kernel
theorem dL_law_305 : decode cL_law 305 = .ok (.aload_n 2, 1) := by decide +kernel
theorem dL_law_306 : decode cL_law 306 = .ok (.invokevirtual 152, 3) := by decide +kernel
theorem dL_law_309 : decode cL_law 309 = .ok (.iload 6, 2) := by decide +kernel
theorem dL_law_311 : decode cL_law 311 = .ok (.if_icmp .eq 5, 3) := by decide +kernel
theorem dL_law_314 : decode cL_law 314 = .ok (.iconst 0, 1) := by decide +kernel
theorem dL_law_315 : decode cL_law 315 = .ok (.ireturn, 1) := by decide +kernel
theorem dL_law_316 : decode cL_law 316 = .ok (.iload 6, 2) := by decide +kernel
theorem dL_law_318 : decode cL_law 318 = .ok (.ifCond .ne 15, 3) := by decide +kernel
theorem dL_law_321 : decode cL_law 321 = .ok (.aload_n 3, 1) := by decide +kernel
theorem dL_law_322 : decode cL_law 322 = .ok (.iconst 0, 1) := by decide +kernel
theorem dL_law_323 : decode cL_law 323 = .ok (.laload, 1) := by decide +kernel
theorem dL_law_324 : decode cL_law 324 = .ok (.iload 7, 2) := by decide +kernel
theorem dL_law_326 : decode cL_law 326 = .ok (.i2l, 1) := by decide +kernel
theorem dL_law_327 : decode cL_law 327 = .ok (.lcmp, 1) := by decide +kernel
theorem dL_law_328 : decode cL_law 328 = .ok (.ifCond .eq 5, 3) := by decide +kernel
theorem dL_law_331 : decode cL_law 331 = .ok (.iconst 0, 1) := by decide +kernel
theorem dL_law_332 : decode cL_law 332 = .ok (.ireturn, 1) := by decide +kernel
theorem dL_law_333 : decode cL_law 333 = .ok (.goto 2291, 3) := by decide +kernel
theorem dL_law_336 : decode cL_law 336 = .ok (.aload_n 1, 1) := by decide +kernel
theorem dL_law_337 : decode cL_law 337 = .ok (.aload_n 0, 1) := by decide +kernel
theorem dL_law_338 : decode cL_law 338 = .ok (.iload 5, 2) := by decide +kernel
theorem dL_law_340 : decode cL_law 340 = .ok (.iconst 1, 1) := by decide +kernel
theorem dL_law_341 : decode cL_law 341 = .ok (.iadd, 1) := by decide +kernel
theorem dL_law_342 : decode cL_law 342 = .ok (.iaload, 1) := by decide +kernel
theorem dL_law_343 : decode cL_law 343 = .ok (.aload_n 0, 1) := by decide +kernel
theorem dL_law_344 : decode cL_law 344 = .ok (.iload 5, 2) := by decide +kernel
theorem dL_law_346 : decode cL_law 346 = .ok (.iconst 2, 1) := by decide +kernel
theorem dL_law_347 : decode cL_law 347 = .ok (.iadd, 1) := by decide +kernel
theorem dL_law_348 : decode cL_law 348 = .ok (.iaload, 1) := by decide +kernel
theorem dL_law_349 : decode cL_law 349 = .ok (.aload_n 0, 1) := by decide +kernel
theorem dL_law_350 : decode cL_law 350 = .ok (.iload 5, 2) := by decide +kernel
theorem dL_law_352 : decode cL_law 352 = .ok (.iconst 3, 1) := by decide +kernel
theorem dL_law_353 : decode cL_law 353 = .ok (.iadd, 1) := by decide +kernel
theorem dL_law_354 : decode cL_law 354 = .ok (.iaload, 1) := by decide +kernel
theorem dL_law_355 : decode cL_law 355 = .ok (.aload_n 3, 1) := by decide +kernel
theorem dL_law_356 : decode cL_law 356 = .ok (.invokestatic 155, 3) := by decide +kernel
theorem dL_law_359 : decode cL_law 359 = .ok (.istore 6, 2) := by decide +kernel
theorem dL_law_361 : decode cL_law 361 = .ok (.aload_n 2, 1) := by decide +kernel
theorem dL_law_362 : decode cL_law 362 = .ok (.aload_n 0, 1) := by decide +kernel
theorem dL_law_363 : decode cL_law 363 = .ok (.iload 5, 2) := by decide +kernel
theorem dL_law_365 : decode cL_law 365 = .ok (.iconst 1, 1) := by decide +kernel
theorem dL_law_366 : decode cL_law 366 = .ok (.iadd, 1) := by decide +kernel
theorem dL_law_367 : decode cL_law 367 = .ok (.iaload, 1) := by decide +kernel
theorem dL_law_368 : decode cL_law 368 = .ok (.aload_n 0, 1) := by decide +kernel
theorem dL_law_369 : decode cL_law 369 = .ok (.iload 5, 2) := by decide +kernel
theorem dL_law_371 : decode cL_law 371 = .ok (.iconst 2, 1) := by decide +kernel
theorem dL_law_372 : decode cL_law 372 = .ok (.iadd, 1) := by decide +kernel
theorem dL_law_373 : decode cL_law 373 = .ok (.iaload, 1) := by decide +kernel
theorem dL_law_374 : decode cL_law 374 = .ok (.aload_n 0, 1) := by decide +kernel
theorem dL_law_375 : decode cL_law 375 = .ok (.iload 5, 2) := by decide +kernel
theorem dL_law_377 : decode cL_law 377 = .ok (.iconst 3, 1) := by decide +kernel
theorem dL_law_378 : decode cL_law 378 = .ok (.iadd, 1) := by decide +kernel
theorem dL_law_379 : decode cL_law 379 = .ok (.iaload, 1) := by decide +kernel
theorem dL_law_380 : decode cL_law 380 = .ok (.invokevirtual 157, 3) := by decide +kernel
theorem dL_law_383 : decode cL_law 383 = .ok (.istore 7, 2) := by decide +kernel
theorem dL_law_385 : decode cL_law 385 = .ok (.aload_n 2, 1) := by decide +kernel
theorem dL_law_386 : decode cL_law 386 = .ok (.invokevirtual 152, 3) := by decide +kernel
theorem dL_law_389 : decode cL_law 389 = .ok (.iload 6, 2) := by decide +kernel
theorem dL_law_391 : decode cL_law 391 = .ok (.if_icmp .eq 5, 3) := by decide +kernel
theorem dL_law_394 : decode cL_law 394 = .ok (.iconst 0, 1) := by decide +kernel
theorem dL_law_395 : decode cL_law 395 = .ok (.ireturn, 1) := by decide +kernel
theorem dL_law_396 : decode cL_law 396 = .ok (.iload 6, 2) := by decide +kernel
theorem dL_law_398 : decode cL_law 398 = .ok (.ifCond .ne 15, 3) := by decide +kernel
theorem dL_law_401 : decode cL_law 401 = .ok (.aload_n 3, 1) := by decide +kernel
theorem dL_law_402 : decode cL_law 402 = .ok (.iconst 0, 1) := by decide +kernel
theorem dL_law_403 : decode cL_law 403 = .ok (.laload, 1) := by decide +kernel
theorem dL_law_404 : decode cL_law 404 = .ok (.iload 7, 2) := by decide +kernel
theorem dL_law_406 : decode cL_law 406 = .ok (.i2l, 1) := by decide +kernel
theorem dL_law_407 : decode cL_law 407 = .ok (.lcmp, 1) := by decide +kernel
theorem dL_law_408 : decode cL_law 408 = .ok (.ifCond .eq 5, 3) := by decide +kernel
theorem dL_law_411 : decode cL_law 411 = .ok (.iconst 0, 1) := by decide +kernel
theorem dL_law_412 : decode cL_law 412 = .ok (.ireturn, 1) := by decide +kernel
theorem dL_law_413 : decode cL_law 413 = .ok (.goto 2211, 3) := by decide +kernel
theorem dL_law_416 : decode cL_law 416 = .ok (.aload_n 1, 1) := by decide +kernel
theorem dL_law_417 : decode cL_law 417 = .ok (.aload_n 0, 1) := by decide +kernel
theorem dL_law_418 : decode cL_law 418 = .ok (.iload 5, 2) := by decide +kernel
theorem dL_law_420 : decode cL_law 420 = .ok (.iconst 1, 1) := by decide +kernel
theorem dL_law_421 : decode cL_law 421 = .ok (.iadd, 1) := by decide +kernel
theorem dL_law_422 : decode cL_law 422 = .ok (.iaload, 1) := by decide +kernel
theorem dL_law_423 : decode cL_law 423 = .ok (.aload_n 3, 1) := by decide +kernel
theorem dL_law_424 : decode cL_law 424 = .ok (.invokestatic 158, 3) := by decide +kernel
theorem dL_law_427 : decode cL_law 427 = .ok (.istore 6, 2) := by decide +kernel
theorem dL_law_429 : decode cL_law 429 = .ok (.aload_n 2, 1) := by decide +kernel
theorem dL_law_430 : decode cL_law 430 = .ok (.aload_n 0, 1) := by decide +kernel
theorem dL_law_431 : decode cL_law 431 = .ok (.iload 5, 2) := by decide +kernel
theorem dL_law_433 : decode cL_law 433 = .ok (.iconst 1, 1) := by decide +kernel
theorem dL_law_434 : decode cL_law 434 = .ok (.iadd, 1) := by decide +kernel
theorem dL_law_435 : decode cL_law 435 = .ok (.iaload, 1) := by decide +kernel
theorem dL_law_436 : decode cL_law 436 = .ok (.invokevirtual 161, 3) := by decide +kernel
theorem dL_law_439 : decode cL_law 439 = .ok (.istore 7, 2) := by decide +kernel
theorem dL_law_441 : decode cL_law 441 = .ok (.aload_n 2, 1) := by decide +kernel
theorem dL_law_442 : decode cL_law 442 = .ok (.invokevirtual 152, 3) := by decide +kernel
theorem dL_law_445 : decode cL_law 445 = .ok (.iload 6, 2) := by decide +kernel
theorem dL_law_447 : decode cL_law 447 = .ok (.if_icmp .eq 5, 3) := by decide +kernel
theorem dL_law_450 : decode cL_law 450 = .ok (.iconst 0, 1) := by decide +kernel
theorem dL_law_451 : decode cL_law 451 = .ok (.ireturn, 1) := by decide +kernel
theorem dL_law_452 : decode cL_law 452 = .ok (.iload 6, 2) := by decide +kernel
theorem dL_law_454 : decode cL_law 454 = .ok (.ifCond .ne 22, 3) := by decide +kernel
theorem dL_law_457 : decode cL_law 457 = .ok (.aload_n 3, 1) := by decide +kernel
theorem dL_law_458 : decode cL_law 458 = .ok (.iconst 0, 1) := by decide +kernel
theorem dL_law_459 : decode cL_law 459 = .ok (.laload, 1) := by decide +kernel
theorem dL_law_460 : decode cL_law 460 = .ok (.iload 7, 2) := by decide +kernel
theorem dL_law_462 : decode cL_law 462 = .ok (.ifCond .eq 7, 3) := by decide +kernel
theorem dL_law_465 : decode cL_law 465 = .ok (.lconst 1, 1) := by decide +kernel
theorem dL_law_466 : decode cL_law 466 = .ok (.goto 4, 3) := by decide +kernel
theorem dL_law_469 : decode cL_law 469 = .ok (.lconst 0, 1) := by decide +kernel
theorem dL_law_470 : decode cL_law 470 = .ok (.lcmp, 1) := by decide +kernel
theorem dL_law_471 : decode cL_law 471 = .ok (.ifCond .eq 5, 3) := by decide +kernel
theorem dL_law_474 : decode cL_law 474 = .ok (.iconst 0, 1) := by decide +kernel
theorem dL_law_475 : decode cL_law 475 = .ok (.ireturn, 1) := by decide +kernel
theorem dL_law_476 : decode cL_law 476 = .ok (.goto 2148, 3) := by decide +kernel
theorem dL_law_479 : decode cL_law 479 = .ok (.aload_n 1, 1) := by decide +kernel
theorem dL_law_480 : decode cL_law 480 = .ok (.aload_n 0, 1) := by decide +kernel
theorem dL_law_481 : decode cL_law 481 = .ok (.iload 5, 2) := by decide +kernel
theorem dL_law_483 : decode cL_law 483 = .ok (.iconst 1, 1) := by decide +kernel
theorem dL_law_484 : decode cL_law 484 = .ok (.iadd, 1) := by decide +kernel
theorem dL_law_485 : decode cL_law 485 = .ok (.iaload, 1) := by decide +kernel
theorem dL_law_486 : decode cL_law 486 = .ok (.aload_n 3, 1) := by decide +kernel
theorem dL_law_487 : decode cL_law 487 = .ok (.invokestatic 162, 3) := by decide +kernel
theorem dL_law_490 : decode cL_law 490 = .ok (.istore 6, 2) := by decide +kernel
theorem dL_law_492 : decode cL_law 492 = .ok (.aload_n 2, 1) := by decide +kernel
theorem dL_law_493 : decode cL_law 493 = .ok (.aload_n 0, 1) := by decide +kernel
theorem dL_law_494 : decode cL_law 494 = .ok (.iload 5, 2) := by decide +kernel
theorem dL_law_496 : decode cL_law 496 = .ok (.iconst 1, 1) := by decide +kernel
theorem dL_law_497 : decode cL_law 497 = .ok (.iadd, 1) := by decide +kernel
theorem dL_law_498 : decode cL_law 498 = .ok (.iaload, 1) := by decide +kernel
theorem dL_law_499 : decode cL_law 499 = .ok (.invokevirtual 164, 3) := by decide +kernel
theorem dL_law_502 : decode cL_law 502 = .ok (.istore 7, 2) := by decide +kernel
theorem dL_law_504 : decode cL_law 504 = .ok (.aload_n 2, 1) := by decide +kernel
theorem dL_law_505 : decode cL_law 505 = .ok (.invokevirtual 152, 3) := by decide +kernel
theorem dL_law_508 : decode cL_law 508 = .ok (.iload 6, 2) := by decide +kernel
theorem dL_law_510 : decode cL_law 510 = .ok (.if_icmp .eq 5, 3) := by decide +kernel
theorem dL_law_513 : decode cL_law 513 = .ok (.iconst 0, 1) := by decide +kernel
theorem dL_law_514 : decode cL_law 514 = .ok (.ireturn, 1) := by decide +kernel
theorem dL_law_515 : decode cL_law 515 = .ok (.iload 6, 2) := by decide +kernel
theorem dL_law_517 : decode cL_law 517 = .ok (.ifCond .ne 15, 3) := by decide +kernel
theorem dL_law_520 : decode cL_law 520 = .ok (.aload_n 3, 1) := by decide +kernel
theorem dL_law_521 : decode cL_law 521 = .ok (.iconst 0, 1) := by decide +kernel
theorem dL_law_522 : decode cL_law 522 = .ok (.laload, 1) := by decide +kernel
theorem dL_law_523 : decode cL_law 523 = .ok (.iload 7, 2) := by decide +kernel
theorem dL_law_525 : decode cL_law 525 = .ok (.i2l, 1) := by decide +kernel
theorem dL_law_526 : decode cL_law 526 = .ok (.lcmp, 1) := by decide +kernel
theorem dL_law_527 : decode cL_law 527 = .ok (.ifCond .eq 5, 3) := by decide +kernel
theorem dL_law_530 : decode cL_law 530 = .ok (.iconst 0, 1) := by decide +kernel
theorem dL_law_531 : decode cL_law 531 = .ok (.ireturn, 1) := by decide +kernel
theorem dL_law_532 : decode cL_law 532 = .ok (.goto 2092, 3) := by decide +kernel
theorem dL_law_535 : decode cL_law 535 = .ok (.aload_n 1, 1) := by decide +kernel
theorem dL_law_536 : decode cL_law 536 = .ok (.aload_n 0, 1) := by decide +kernel
theorem dL_law_537 : decode cL_law 537 = .ok (.iload 5, 2) := by decide +kernel
theorem dL_law_539 : decode cL_law 539 = .ok (.iconst 1, 1) := by decide +kernel
theorem dL_law_540 : decode cL_law 540 = .ok (.iadd, 1) := by decide +kernel
theorem dL_law_541 : decode cL_law 541 = .ok (.iaload, 1) := by decide +kernel
theorem dL_law_542 : decode cL_law 542 = .ok (.aload_n 0, 1) := by decide +kernel
theorem dL_law_543 : decode cL_law 543 = .ok (.iload 5, 2) := by decide +kernel
theorem dL_law_545 : decode cL_law 545 = .ok (.iconst 2, 1) := by decide +kernel
theorem dL_law_546 : decode cL_law 546 = .ok (.iadd, 1) := by decide +kernel
theorem dL_law_547 : decode cL_law 547 = .ok (.iaload, 1) := by decide +kernel
theorem dL_law_548 : decode cL_law 548 = .ok (.aload_n 0, 1) := by decide +kernel
theorem dL_law_549 : decode cL_law 549 = .ok (.iload 5, 2) := by decide +kernel
theorem dL_law_551 : decode cL_law 551 = .ok (.iconst 3, 1) := by decide +kernel
theorem dL_law_552 : decode cL_law 552 = .ok (.iadd, 1) := by decide +kernel
theorem dL_law_553 : decode cL_law 553 = .ok (.iaload, 1) := by decide +kernel
theorem dL_law_554 : decode cL_law 554 = .ok (.aload_n 0, 1) := by decide +kernel
theorem dL_law_555 : decode cL_law 555 = .ok (.iload 5, 2) := by decide +kernel
theorem dL_law_557 : decode cL_law 557 = .ok (.iconst 4, 1) := by decide +kernel
theorem dL_law_558 : decode cL_law 558 = .ok (.iadd, 1) := by decide +kernel
theorem dL_law_559 : decode cL_law 559 = .ok (.iaload, 1) := by decide +kernel
theorem dL_law_560 : decode cL_law 560 = .ok (.aload_n 3, 1) := by decide +kernel
theorem dL_law_561 : decode cL_law 561 = .ok (.invokestatic 165, 3) := by decide +kernel
theorem dL_law_564 : decode cL_law 564 = .ok (.istore 6, 2) := by decide +kernel
theorem dL_law_566 : decode cL_law 566 = .ok (.aload_n 2, 1) := by decide +kernel
theorem dL_law_567 : decode cL_law 567 = .ok (.aload_n 0, 1) := by decide +kernel
theorem dL_law_568 : decode cL_law 568 = .ok (.iload 5, 2) := by decide +kernel
theorem dL_law_570 : decode cL_law 570 = .ok (.iconst 1, 1) := by decide +kernel
theorem dL_law_571 : decode cL_law 571 = .ok (.iadd, 1) := by decide +kernel
theorem dL_law_572 : decode cL_law 572 = .ok (.iaload, 1) := by decide +kernel
theorem dL_law_573 : decode cL_law 573 = .ok (.aload_n 0, 1) := by decide +kernel
theorem dL_law_574 : decode cL_law 574 = .ok (.iload 5, 2) := by decide +kernel
theorem dL_law_576 : decode cL_law 576 = .ok (.iconst 2, 1) := by decide +kernel
theorem dL_law_577 : decode cL_law 577 = .ok (.iadd, 1) := by decide +kernel
theorem dL_law_578 : decode cL_law 578 = .ok (.iaload, 1) := by decide +kernel
theorem dL_law_579 : decode cL_law 579 = .ok (.aload_n 0, 1) := by decide +kernel
theorem dL_law_580 : decode cL_law 580 = .ok (.iload 5, 2) := by decide +kernel
theorem dL_law_582 : decode cL_law 582 = .ok (.iconst 3, 1) := by decide +kernel
theorem dL_law_583 : decode cL_law 583 = .ok (.iadd, 1) := by decide +kernel
theorem dL_law_584 : decode cL_law 584 = .ok (.iaload, 1) := by decide +kernel
theorem dL_law_585 : decode cL_law 585 = .ok (.aload_n 0, 1) := by decide +kernel
theorem dL_law_586 : decode cL_law 586 = .ok (.iload 5, 2) := by decide +kernel
theorem dL_law_588 : decode cL_law 588 = .ok (.iconst 4, 1) := by decide +kernel
theorem dL_law_589 : decode cL_law 589 = .ok (.iadd, 1) := by decide +kernel
theorem dL_law_590 : decode cL_law 590 = .ok (.iaload, 1) := by decide +kernel
theorem dL_law_591 : decode cL_law 591 = .ok (.invokevirtual 168, 3) := by decide +kernel
theorem dL_law_594 : decode cL_law 594 = .ok (.istore 7, 2) := by decide +kernel
theorem dL_law_596 : decode cL_law 596 = .ok (.aload_n 2, 1) := by decide +kernel
theorem dL_law_597 : decode cL_law 597 = .ok (.invokevirtual 152, 3) := by decide +kernel
theorem dL_law_600 : decode cL_law 600 = .ok (.iload 6, 2) := by decide +kernel
theorem dL_law_602 : decode cL_law 602 = .ok (.if_icmp .eq 5, 3) := by decide +kernel
theorem dL_law_605 : decode cL_law 605 = .ok (.iconst 0, 1) := by decide +kernel
theorem dL_law_606 : decode cL_law 606 = .ok (.ireturn, 1) := by decide +kernel
theorem dL_law_607 : decode cL_law 607 = .ok (.iload 6, 2) := by decide +kernel
theorem dL_law_609 : decode cL_law 609 = .ok (.ifCond .ne 15, 3) := by decide +kernel
theorem dL_law_612 : decode cL_law 612 = .ok (.aload_n 3, 1) := by decide +kernel
theorem dL_law_613 : decode cL_law 613 = .ok (.iconst 0, 1) := by decide +kernel
theorem dL_law_614 : decode cL_law 614 = .ok (.laload, 1) := by decide +kernel
theorem dL_law_615 : decode cL_law 615 = .ok (.iload 7, 2) := by decide +kernel
theorem dL_law_617 : decode cL_law 617 = .ok (.i2l, 1) := by decide +kernel
theorem dL_law_618 : decode cL_law 618 = .ok (.lcmp, 1) := by decide +kernel
theorem dL_law_619 : decode cL_law 619 = .ok (.ifCond .eq 5, 3) := by decide +kernel
theorem dL_law_622 : decode cL_law 622 = .ok (.iconst 0, 1) := by decide +kernel
theorem dL_law_623 : decode cL_law 623 = .ok (.ireturn, 1) := by decide +kernel
theorem dL_law_624 : decode cL_law 624 = .ok (.goto 2000, 3) := by decide +kernel
theorem dL_law_627 : decode cL_law 627 = .ok (.aload_n 1, 1) := by decide +kernel
theorem dL_law_628 : decode cL_law 628 = .ok (.aload_n 0, 1) := by decide +kernel
theorem dL_law_629 : decode cL_law 629 = .ok (.iload 5, 2) := by decide +kernel
theorem dL_law_631 : decode cL_law 631 = .ok (.iconst 1, 1) := by decide +kernel
theorem dL_law_632 : decode cL_law 632 = .ok (.iadd, 1) := by decide +kernel
theorem dL_law_633 : decode cL_law 633 = .ok (.iaload, 1) := by decide +kernel
theorem dL_law_634 : decode cL_law 634 = .ok (.aload_n 3, 1) := by decide +kernel
theorem dL_law_635 : decode cL_law 635 = .ok (.invokestatic 169, 3) := by decide +kernel
theorem dL_law_638 : decode cL_law 638 = .ok (.istore 6, 2) := by decide +kernel
theorem dL_law_640 : decode cL_law 640 = .ok (.aload_n 2, 1) := by decide +kernel
theorem dL_law_641 : decode cL_law 641 = .ok (.aload_n 0, 1) := by decide +kernel
theorem dL_law_642 : decode cL_law 642 = .ok (.iload 5, 2) := by decide +kernel
theorem dL_law_644 : decode cL_law 644 = .ok (.iconst 1, 1) := by decide +kernel
theorem dL_law_645 : decode cL_law 645 = .ok (.iadd, 1) := by decide +kernel
theorem dL_law_646 : decode cL_law 646 = .ok (.iaload, 1) := by decide +kernel
theorem dL_law_647 : decode cL_law 647 = .ok (.invokevirtual 171, 3) := by decide +kernel
theorem dL_law_650 : decode cL_law 650 = .ok (.istore 7, 2) := by decide +kernel
theorem dL_law_652 : decode cL_law 652 = .ok (.aload_n 2, 1) := by decide +kernel
theorem dL_law_653 : decode cL_law 653 = .ok (.invokevirtual 152, 3) := by decide +kernel
theorem dL_law_656 : decode cL_law 656 = .ok (.iload 6, 2) := by decide +kernel
theorem dL_law_658 : decode cL_law 658 = .ok (.if_icmp .eq 5, 3) := by decide +kernel
theorem dL_law_661 : decode cL_law 661 = .ok (.iconst 0, 1) := by decide +kernel
theorem dL_law_662 : decode cL_law 662 = .ok (.ireturn, 1) := by decide +kernel
theorem dL_law_663 : decode cL_law 663 = .ok (.iload 6, 2) := by decide +kernel
theorem dL_law_665 : decode cL_law 665 = .ok (.ifCond .ne 15, 3) := by decide +kernel
theorem dL_law_668 : decode cL_law 668 = .ok (.aload_n 3, 1) := by decide +kernel
theorem dL_law_669 : decode cL_law 669 = .ok (.iconst 0, 1) := by decide +kernel
theorem dL_law_670 : decode cL_law 670 = .ok (.laload, 1) := by decide +kernel
theorem dL_law_671 : decode cL_law 671 = .ok (.iload 7, 2) := by decide +kernel
theorem dL_law_673 : decode cL_law 673 = .ok (.i2l, 1) := by decide +kernel
theorem dL_law_674 : decode cL_law 674 = .ok (.lcmp, 1) := by decide +kernel
theorem dL_law_675 : decode cL_law 675 = .ok (.ifCond .eq 5, 3) := by decide +kernel
theorem dL_law_678 : decode cL_law 678 = .ok (.iconst 0, 1) := by decide +kernel
theorem dL_law_679 : decode cL_law 679 = .ok (.ireturn, 1) := by decide +kernel
theorem dL_law_680 : decode cL_law 680 = .ok (.goto 1944, 3) := by decide +kernel
theorem dL_law_683 : decode cL_law 683 = .ok (.aload_n 1, 1) := by decide +kernel
theorem dL_law_684 : decode cL_law 684 = .ok (.aload_n 0, 1) := by decide +kernel
theorem dL_law_685 : decode cL_law 685 = .ok (.iload 5, 2) := by decide +kernel
theorem dL_law_687 : decode cL_law 687 = .ok (.iconst 1, 1) := by decide +kernel
theorem dL_law_688 : decode cL_law 688 = .ok (.iadd, 1) := by decide +kernel
theorem dL_law_689 : decode cL_law 689 = .ok (.iaload, 1) := by decide +kernel
theorem dL_law_690 : decode cL_law 690 = .ok (.aload_n 0, 1) := by decide +kernel
theorem dL_law_691 : decode cL_law 691 = .ok (.iload 5, 2) := by decide +kernel
theorem dL_law_693 : decode cL_law 693 = .ok (.iconst 2, 1) := by decide +kernel
theorem dL_law_694 : decode cL_law 694 = .ok (.iadd, 1) := by decide +kernel
theorem dL_law_695 : decode cL_law 695 = .ok (.iaload, 1) := by decide +kernel
theorem dL_law_696 : decode cL_law 696 = .ok (.aload_n 3, 1) := by decide +kernel
theorem dL_law_697 : decode cL_law 697 = .ok (.invokestatic 172, 3) := by decide +kernel
theorem dL_law_700 : decode cL_law 700 = .ok (.istore 6, 2) := by decide +kernel
theorem dL_law_702 : decode cL_law 702 = .ok (.aload_n 2, 1) := by decide +kernel
theorem dL_law_703 : decode cL_law 703 = .ok (.aload_n 0, 1) := by decide +kernel
theorem dL_law_704 : decode cL_law 704 = .ok (.iload 5, 2) := by decide +kernel
theorem dL_law_706 : decode cL_law 706 = .ok (.iconst 1, 1) := by decide +kernel
theorem dL_law_707 : decode cL_law 707 = .ok (.iadd, 1) := by decide +kernel
theorem dL_law_708 : decode cL_law 708 = .ok (.iaload, 1) := by decide +kernel
theorem dL_law_709 : decode cL_law 709 = .ok (.aload_n 0, 1) := by decide +kernel
theorem dL_law_710 : decode cL_law 710 = .ok (.iload 5, 2) := by decide +kernel
theorem dL_law_712 : decode cL_law 712 = .ok (.iconst 2, 1) := by decide +kernel
theorem dL_law_713 : decode cL_law 713 = .ok (.iadd, 1) := by decide +kernel
theorem dL_law_714 : decode cL_law 714 = .ok (.iaload, 1) := by decide +kernel
theorem dL_law_715 : decode cL_law 715 = .ok (.invokevirtual 175, 3) := by decide +kernel
theorem dL_law_718 : decode cL_law 718 = .ok (.istore 7, 2) := by decide +kernel
theorem dL_law_720 : decode cL_law 720 = .ok (.aload_n 2, 1) := by decide +kernel
theorem dL_law_721 : decode cL_law 721 = .ok (.invokevirtual 152, 3) := by decide +kernel
theorem dL_law_724 : decode cL_law 724 = .ok (.iload 6, 2) := by decide +kernel
theorem dL_law_726 : decode cL_law 726 = .ok (.if_icmp .eq 5, 3) := by decide +kernel
theorem dL_law_729 : decode cL_law 729 = .ok (.iconst 0, 1) := by decide +kernel
theorem dL_law_730 : decode cL_law 730 = .ok (.ireturn, 1) := by decide +kernel
theorem dL_law_731 : decode cL_law 731 = .ok (.iload 6, 2) := by decide +kernel
theorem dL_law_733 : decode cL_law 733 = .ok (.ifCond .ne 15, 3) := by decide +kernel
theorem dL_law_736 : decode cL_law 736 = .ok (.aload_n 3, 1) := by decide +kernel
theorem dL_law_737 : decode cL_law 737 = .ok (.iconst 0, 1) := by decide +kernel
theorem dL_law_738 : decode cL_law 738 = .ok (.laload, 1) := by decide +kernel
theorem dL_law_739 : decode cL_law 739 = .ok (.iload 7, 2) := by decide +kernel
theorem dL_law_741 : decode cL_law 741 = .ok (.i2l, 1) := by decide +kernel
theorem dL_law_742 : decode cL_law 742 = .ok (.lcmp, 1) := by decide +kernel
theorem dL_law_743 : decode cL_law 743 = .ok (.ifCond .eq 5, 3) := by decide +kernel
theorem dL_law_746 : decode cL_law 746 = .ok (.iconst 0, 1) := by decide +kernel
theorem dL_law_747 : decode cL_law 747 = .ok (.ireturn, 1) := by decide +kernel
theorem dL_law_748 : decode cL_law 748 = .ok (.goto 1876, 3) := by decide +kernel
theorem dL_law_751 : decode cL_law 751 = .ok (.aload_n 1, 1) := by decide +kernel
theorem dL_law_752 : decode cL_law 752 = .ok (.aload_n 0, 1) := by decide +kernel
theorem dL_law_753 : decode cL_law 753 = .ok (.iload 5, 2) := by decide +kernel
theorem dL_law_755 : decode cL_law 755 = .ok (.iconst 1, 1) := by decide +kernel
theorem dL_law_756 : decode cL_law 756 = .ok (.iadd, 1) := by decide +kernel
theorem dL_law_757 : decode cL_law 757 = .ok (.iaload, 1) := by decide +kernel
theorem dL_law_758 : decode cL_law 758 = .ok (.aload_n 3, 1) := by decide +kernel
theorem dL_law_759 : decode cL_law 759 = .ok (.invokestatic 176, 3) := by decide +kernel
theorem dL_law_762 : decode cL_law 762 = .ok (.istore 6, 2) := by decide +kernel
theorem dL_law_764 : decode cL_law 764 = .ok (.aload_n 2, 1) := by decide +kernel
theorem dL_law_765 : decode cL_law 765 = .ok (.aload_n 0, 1) := by decide +kernel
theorem dL_law_766 : decode cL_law 766 = .ok (.iload 5, 2) := by decide +kernel
theorem dL_law_768 : decode cL_law 768 = .ok (.iconst 1, 1) := by decide +kernel
theorem dL_law_769 : decode cL_law 769 = .ok (.iadd, 1) := by decide +kernel
theorem dL_law_770 : decode cL_law 770 = .ok (.iaload, 1) := by decide +kernel
theorem dL_law_771 : decode cL_law 771 = .ok (.invokevirtual 178, 3) := by decide +kernel
theorem dL_law_774 : decode cL_law 774 = .ok (.istore 7, 2) := by decide +kernel
theorem dL_law_776 : decode cL_law 776 = .ok (.aload_n 2, 1) := by decide +kernel
theorem dL_law_777 : decode cL_law 777 = .ok (.invokevirtual 152, 3) := by decide +kernel
theorem dL_law_780 : decode cL_law 780 = .ok (.iload 6, 2) := by decide +kernel
theorem dL_law_782 : decode cL_law 782 = .ok (.if_icmp .eq 5, 3) := by decide +kernel
theorem dL_law_785 : decode cL_law 785 = .ok (.iconst 0, 1) := by decide +kernel
theorem dL_law_786 : decode cL_law 786 = .ok (.ireturn, 1) := by decide +kernel
theorem dL_law_787 : decode cL_law 787 = .ok (.iload 6, 2) := by decide +kernel
theorem dL_law_789 : decode cL_law 789 = .ok (.ifCond .ne 15, 3) := by decide +kernel
theorem dL_law_792 : decode cL_law 792 = .ok (.aload_n 3, 1) := by decide +kernel
theorem dL_law_793 : decode cL_law 793 = .ok (.iconst 0, 1) := by decide +kernel
theorem dL_law_794 : decode cL_law 794 = .ok (.laload, 1) := by decide +kernel
theorem dL_law_795 : decode cL_law 795 = .ok (.iload 7, 2) := by decide +kernel
theorem dL_law_797 : decode cL_law 797 = .ok (.i2l, 1) := by decide +kernel
theorem dL_law_798 : decode cL_law 798 = .ok (.lcmp, 1) := by decide +kernel
theorem dL_law_799 : decode cL_law 799 = .ok (.ifCond .eq 5, 3) := by decide +kernel
theorem dL_law_802 : decode cL_law 802 = .ok (.iconst 0, 1) := by decide +kernel
theorem dL_law_803 : decode cL_law 803 = .ok (.ireturn, 1) := by decide +kernel
theorem dL_law_804 : decode cL_law 804 = .ok (.goto 1820, 3) := by decide +kernel
theorem dL_law_807 : decode cL_law 807 = .ok (.aload_n 1, 1) := by decide +kernel
theorem dL_law_808 : decode cL_law 808 = .ok (.invokevirtual 179, 3) := by decide +kernel
theorem dL_law_811 : decode cL_law 811 = .ok (.aload_n 2, 1) := by decide +kernel
theorem dL_law_812 : decode cL_law 812 = .ok (.invokevirtual 182, 3) := by decide +kernel
theorem dL_law_815 : decode cL_law 815 = .ok (.if_icmp .eq 1809, 3) := by decide +kernel
theorem dL_law_818 : decode cL_law 818 = .ok (.iconst 0, 1) := by decide +kernel
theorem dL_law_819 : decode cL_law 819 = .ok (.ireturn, 1) := by decide +kernel
theorem dL_law_820 : decode cL_law 820 = .ok (.aload_n 1, 1) := by decide +kernel
theorem dL_law_821 : decode cL_law 821 = .ok (.aload_n 0, 1) := by decide +kernel
theorem dL_law_822 : decode cL_law 822 = .ok (.iload 5, 2) := by decide +kernel
theorem dL_law_824 : decode cL_law 824 = .ok (.iconst 1, 1) := by decide +kernel
theorem dL_law_825 : decode cL_law 825 = .ok (.iadd, 1) := by decide +kernel
theorem dL_law_826 : decode cL_law 826 = .ok (.iaload, 1) := by decide +kernel
theorem dL_law_827 : decode cL_law 827 = .ok (.aload_n 0, 1) := by decide +kernel
theorem dL_law_828 : decode cL_law 828 = .ok (.iload 5, 2) := by decide +kernel
theorem dL_law_830 : decode cL_law 830 = .ok (.iconst 2, 1) := by decide +kernel
theorem dL_law_831 : decode cL_law 831 = .ok (.iadd, 1) := by decide +kernel
theorem dL_law_832 : decode cL_law 832 = .ok (.iaload, 1) := by decide +kernel
theorem dL_law_833 : decode cL_law 833 = .ok (.aload_n 3, 1) := by decide +kernel
theorem dL_law_834 : decode cL_law 834 = .ok (.invokestatic 183, 3) := by decide +kernel
theorem dL_law_837 : decode cL_law 837 = .ok (.istore 6, 2) := by decide +kernel
theorem dL_law_839 : decode cL_law 839 = .ok (.aload_n 2, 1) := by decide +kernel
theorem dL_law_840 : decode cL_law 840 = .ok (.aload_n 0, 1) := by decide +kernel
theorem dL_law_841 : decode cL_law 841 = .ok (.iload 5, 2) := by decide +kernel
theorem dL_law_843 : decode cL_law 843 = .ok (.iconst 1, 1) := by decide +kernel
theorem dL_law_844 : decode cL_law 844 = .ok (.iadd, 1) := by decide +kernel
theorem dL_law_845 : decode cL_law 845 = .ok (.iaload, 1) := by decide +kernel
theorem dL_law_846 : decode cL_law 846 = .ok (.aload_n 0, 1) := by decide +kernel
theorem dL_law_847 : decode cL_law 847 = .ok (.iload 5, 2) := by decide +kernel
theorem dL_law_849 : decode cL_law 849 = .ok (.iconst 2, 1) := by decide +kernel
theorem dL_law_850 : decode cL_law 850 = .ok (.iadd, 1) := by decide +kernel
theorem dL_law_851 : decode cL_law 851 = .ok (.iaload, 1) := by decide +kernel
theorem dL_law_852 : decode cL_law 852 = .ok (.invokevirtual 185, 3) := by decide +kernel
theorem dL_law_855 : decode cL_law 855 = .ok (.istore 7, 2) := by decide +kernel
theorem dL_law_857 : decode cL_law 857 = .ok (.aload_n 2, 1) := by decide +kernel
theorem dL_law_858 : decode cL_law 858 = .ok (.invokevirtual 152, 3) := by decide +kernel
theorem dL_law_861 : decode cL_law 861 = .ok (.iload 6, 2) := by decide +kernel
theorem dL_law_863 : decode cL_law 863 = .ok (.if_icmp .eq 5, 3) := by decide +kernel
theorem dL_law_866 : decode cL_law 866 = .ok (.iconst 0, 1) := by decide +kernel
theorem dL_law_867 : decode cL_law 867 = .ok (.ireturn, 1) := by decide +kernel
theorem dL_law_868 : decode cL_law 868 = .ok (.iload 6, 2) := by decide +kernel
theorem dL_law_870 : decode cL_law 870 = .ok (.ifCond .ne 15, 3) := by decide +kernel
theorem dL_law_873 : decode cL_law 873 = .ok (.aload_n 3, 1) := by decide +kernel
theorem dL_law_874 : decode cL_law 874 = .ok (.iconst 0, 1) := by decide +kernel
theorem dL_law_875 : decode cL_law 875 = .ok (.laload, 1) := by decide +kernel
theorem dL_law_876 : decode cL_law 876 = .ok (.iload 7, 2) := by decide +kernel
theorem dL_law_878 : decode cL_law 878 = .ok (.i2l, 1) := by decide +kernel
theorem dL_law_879 : decode cL_law 879 = .ok (.lcmp, 1) := by decide +kernel
theorem dL_law_880 : decode cL_law 880 = .ok (.ifCond .eq 5, 3) := by decide +kernel
theorem dL_law_883 : decode cL_law 883 = .ok (.iconst 0, 1) := by decide +kernel
theorem dL_law_884 : decode cL_law 884 = .ok (.ireturn, 1) := by decide +kernel
theorem dL_law_885 : decode cL_law 885 = .ok (.goto 1739, 3) := by decide +kernel
theorem dL_law_888 : decode cL_law 888 = .ok (.aload_n 1, 1) := by decide +kernel
theorem dL_law_889 : decode cL_law 889 = .ok (.aload_n 0, 1) := by decide +kernel
theorem dL_law_890 : decode cL_law 890 = .ok (.iload 5, 2) := by decide +kernel
theorem dL_law_892 : decode cL_law 892 = .ok (.iconst 1, 1) := by decide +kernel
theorem dL_law_893 : decode cL_law 893 = .ok (.iadd, 1) := by decide +kernel
theorem dL_law_894 : decode cL_law 894 = .ok (.iaload, 1) := by decide +kernel
theorem dL_law_895 : decode cL_law 895 = .ok (.aload_n 0, 1) := by decide +kernel
theorem dL_law_896 : decode cL_law 896 = .ok (.iload 5, 2) := by decide +kernel
theorem dL_law_898 : decode cL_law 898 = .ok (.iconst 2, 1) := by decide +kernel
theorem dL_law_899 : decode cL_law 899 = .ok (.iadd, 1) := by decide +kernel
theorem dL_law_900 : decode cL_law 900 = .ok (.iaload, 1) := by decide +kernel
theorem dL_law_901 : decode cL_law 901 = .ok (.aload_n 3, 1) := by decide +kernel
theorem dL_law_902 : decode cL_law 902 = .ok (.invokestatic 186, 3) := by decide +kernel
theorem dL_law_905 : decode cL_law 905 = .ok (.istore 6, 2) := by decide +kernel
theorem dL_law_907 : decode cL_law 907 = .ok (.aload_n 2, 1) := by decide +kernel
theorem dL_law_908 : decode cL_law 908 = .ok (.aload_n 0, 1) := by decide +kernel
theorem dL_law_909 : decode cL_law 909 = .ok (.iload 5, 2) := by decide +kernel
theorem dL_law_911 : decode cL_law 911 = .ok (.iconst 1, 1) := by decide +kernel
theorem dL_law_912 : decode cL_law 912 = .ok (.iadd, 1) := by decide +kernel
theorem dL_law_913 : decode cL_law 913 = .ok (.iaload, 1) := by decide +kernel
theorem dL_law_914 : decode cL_law 914 = .ok (.aload_n 0, 1) := by decide +kernel
theorem dL_law_915 : decode cL_law 915 = .ok (.iload 5, 2) := by decide +kernel
theorem dL_law_917 : decode cL_law 917 = .ok (.iconst 2, 1) := by decide +kernel
theorem dL_law_918 : decode cL_law 918 = .ok (.iadd, 1) := by decide +kernel
theorem dL_law_919 : decode cL_law 919 = .ok (.iaload, 1) := by decide +kernel
theorem dL_law_920 : decode cL_law 920 = .ok (.invokevirtual 188, 3) := by decide +kernel
theorem dL_law_923 : decode cL_law 923 = .ok (.istore 7, 2) := by decide +kernel
theorem dL_law_925 : decode cL_law 925 = .ok (.aload_n 2, 1) := by decide +kernel
theorem dL_law_926 : decode cL_law 926 = .ok (.invokevirtual 152, 3) := by decide +kernel
theorem dL_law_929 : decode cL_law 929 = .ok (.iload 6, 2) := by decide +kernel
theorem dL_law_931 : decode cL_law 931 = .ok (.if_icmp .eq 5, 3) := by decide +kernel
theorem dL_law_934 : decode cL_law 934 = .ok (.iconst 0, 1) := by decide +kernel
theorem dL_law_935 : decode cL_law 935 = .ok (.ireturn, 1) := by decide +kernel
theorem dL_law_936 : decode cL_law 936 = .ok (.iload 6, 2) := by decide +kernel
theorem dL_law_938 : decode cL_law 938 = .ok (.ifCond .ne 15, 3) := by decide +kernel
theorem dL_law_941 : decode cL_law 941 = .ok (.aload_n 3, 1) := by decide +kernel
theorem dL_law_942 : decode cL_law 942 = .ok (.iconst 0, 1) := by decide +kernel
theorem dL_law_943 : decode cL_law 943 = .ok (.laload, 1) := by decide +kernel
theorem dL_law_944 : decode cL_law 944 = .ok (.iload 7, 2) := by decide +kernel
theorem dL_law_946 : decode cL_law 946 = .ok (.i2l, 1) := by decide +kernel
theorem dL_law_947 : decode cL_law 947 = .ok (.lcmp, 1) := by decide +kernel
theorem dL_law_948 : decode cL_law 948 = .ok (.ifCond .eq 5, 3) := by decide +kernel
theorem dL_law_951 : decode cL_law 951 = .ok (.iconst 0, 1) := by decide +kernel
theorem dL_law_952 : decode cL_law 952 = .ok (.ireturn, 1) := by decide +kernel
theorem dL_law_953 : decode cL_law 953 = .ok (.goto 1671, 3) := by decide +kernel
theorem dL_law_956 : decode cL_law 956 = .ok (.aload_n 1, 1) := by decide +kernel
theorem dL_law_957 : decode cL_law 957 = .ok (.aload_n 0, 1) := by decide +kernel
theorem dL_law_958 : decode cL_law 958 = .ok (.iload 5, 2) := by decide +kernel
theorem dL_law_960 : decode cL_law 960 = .ok (.iconst 1, 1) := by decide +kernel
theorem dL_law_961 : decode cL_law 961 = .ok (.iadd, 1) := by decide +kernel
theorem dL_law_962 : decode cL_law 962 = .ok (.iaload, 1) := by decide +kernel
theorem dL_law_963 : decode cL_law 963 = .ok (.aload_n 3, 1) := by decide +kernel
theorem dL_law_964 : decode cL_law 964 = .ok (.invokestatic 189, 3) := by decide +kernel
theorem dL_law_967 : decode cL_law 967 = .ok (.istore 6, 2) := by decide +kernel
theorem dL_law_969 : decode cL_law 969 = .ok (.aload_n 2, 1) := by decide +kernel
theorem dL_law_970 : decode cL_law 970 = .ok (.aload_n 0, 1) := by decide +kernel
theorem dL_law_971 : decode cL_law 971 = .ok (.iload 5, 2) := by decide +kernel
theorem dL_law_973 : decode cL_law 973 = .ok (.iconst 1, 1) := by decide +kernel
theorem dL_law_974 : decode cL_law 974 = .ok (.iadd, 1) := by decide +kernel
theorem dL_law_975 : decode cL_law 975 = .ok (.iaload, 1) := by decide +kernel
theorem dL_law_976 : decode cL_law 976 = .ok (.invokevirtual 191, 3) := by decide +kernel
theorem dL_law_979 : decode cL_law 979 = .ok (.istore 7, 2) := by decide +kernel
theorem dL_law_981 : decode cL_law 981 = .ok (.aload_n 2, 1) := by decide +kernel
theorem dL_law_982 : decode cL_law 982 = .ok (.invokevirtual 152, 3) := by decide +kernel
theorem dL_law_985 : decode cL_law 985 = .ok (.iload 6, 2) := by decide +kernel
theorem dL_law_987 : decode cL_law 987 = .ok (.if_icmp .eq 5, 3) := by decide +kernel
theorem dL_law_990 : decode cL_law 990 = .ok (.iconst 0, 1) := by decide +kernel
theorem dL_law_991 : decode cL_law 991 = .ok (.ireturn, 1) := by decide +kernel
theorem dL_law_992 : decode cL_law 992 = .ok (.iload 6, 2) := by decide +kernel
theorem dL_law_994 : decode cL_law 994 = .ok (.ifCond .ne 22, 3) := by decide +kernel
theorem dL_law_997 : decode cL_law 997 = .ok (.aload_n 3, 1) := by decide +kernel
theorem dL_law_998 : decode cL_law 998 = .ok (.iconst 0, 1) := by decide +kernel
theorem dL_law_999 : decode cL_law 999 = .ok (.laload, 1) := by decide +kernel
theorem dL_law_1000 : decode cL_law 1000 = .ok (.iload 7, 2) := by decide +kernel
theorem dL_law_1002 : decode cL_law 1002 = .ok (.ifCond .eq 7, 3) := by decide +kernel
theorem dL_law_1005 : decode cL_law 1005 = .ok (.lconst 1, 1) := by decide +kernel
theorem dL_law_1006 : decode cL_law 1006 = .ok (.goto 4, 3) := by decide +kernel
theorem dL_law_1009 : decode cL_law 1009 = .ok (.lconst 0, 1) := by decide +kernel
theorem dL_law_1010 : decode cL_law 1010 = .ok (.lcmp, 1) := by decide +kernel
theorem dL_law_1011 : decode cL_law 1011 = .ok (.ifCond .eq 5, 3) := by decide +kernel
theorem dL_law_1014 : decode cL_law 1014 = .ok (.iconst 0, 1) := by decide +kernel
theorem dL_law_1015 : decode cL_law 1015 = .ok (.ireturn, 1) := by decide +kernel
theorem dL_law_1016 : decode cL_law 1016 = .ok (.goto 1608, 3) := by decide +kernel
theorem dL_law_1019 : decode cL_law 1019 = .ok (.aload_n 1, 1) := by decide +kernel
theorem dL_law_1020 : decode cL_law 1020 = .ok (.aload_n 0, 1) := by decide +kernel
theorem dL_law_1021 : decode cL_law 1021 = .ok (.iload 5, 2) := by decide +kernel
theorem dL_law_1023 : decode cL_law 1023 = .ok (.iconst 1, 1) := by decide +kernel
theorem dL_law_1024 : decode cL_law 1024 = .ok (.iadd, 1) := by decide +kernel
theorem dL_law_1025 : decode cL_law 1025 = .ok (.iaload, 1) := by decide +kernel
theorem dL_law_1026 : decode cL_law 1026 = .ok (.aload_n 3, 1) := by decide +kernel
theorem dL_law_1027 : decode cL_law 1027 = .ok (.invokestatic 192, 3) := by decide +kernel
theorem dL_law_1030 : decode cL_law 1030 = .ok (.istore 6, 2) := by decide +kernel
theorem dL_law_1032 : decode cL_law 1032 = .ok (.aload_n 2, 1) := by decide +kernel
theorem dL_law_1033 : decode cL_law 1033 = .ok (.aload_n 0, 1) := by decide +kernel
theorem dL_law_1034 : decode cL_law 1034 = .ok (.iload 5, 2) := by decide +kernel
theorem dL_law_1036 : decode cL_law 1036 = .ok (.iconst 1, 1) := by decide +kernel
theorem dL_law_1037 : decode cL_law 1037 = .ok (.iadd, 1) := by decide +kernel
theorem dL_law_1038 : decode cL_law 1038 = .ok (.iaload, 1) := by decide +kernel
theorem dL_law_1039 : decode cL_law 1039 = .ok (.invokevirtual 194, 3) := by decide +kernel
theorem dL_law_1042 : decode cL_law 1042 = .ok (.istore 7, 2) := by decide +kernel
theorem dL_law_1044 : decode cL_law 1044 = .ok (.aload_n 2, 1) := by decide +kernel
theorem dL_law_1045 : decode cL_law 1045 = .ok (.invokevirtual 152, 3) := by decide +kernel
theorem dL_law_1048 : decode cL_law 1048 = .ok (.iload 6, 2) := by decide +kernel
theorem dL_law_1050 : decode cL_law 1050 = .ok (.if_icmp .eq 5, 3) := by decide +kernel
theorem dL_law_1053 : decode cL_law 1053 = .ok (.iconst 0, 1) := by decide +kernel
theorem dL_law_1054 : decode cL_law 1054 = .ok (.ireturn, 1) := by decide +kernel
theorem dL_law_1055 : decode cL_law 1055 = .ok (.iload 6, 2) := by decide +kernel
theorem dL_law_1057 : decode cL_law 1057 = .ok (.ifCond .ne 22, 3) := by decide +kernel
theorem dL_law_1060 : decode cL_law 1060 = .ok (.aload_n 3, 1) := by decide +kernel
theorem dL_law_1061 : decode cL_law 1061 = .ok (.iconst 0, 1) := by decide +kernel
theorem dL_law_1062 : decode cL_law 1062 = .ok (.laload, 1) := by decide +kernel
theorem dL_law_1063 : decode cL_law 1063 = .ok (.iload 7, 2) := by decide +kernel
theorem dL_law_1065 : decode cL_law 1065 = .ok (.ifCond .eq 7, 3) := by decide +kernel
theorem dL_law_1068 : decode cL_law 1068 = .ok (.lconst 1, 1) := by decide +kernel
theorem dL_law_1069 : decode cL_law 1069 = .ok (.goto 4, 3) := by decide +kernel
theorem dL_law_1072 : decode cL_law 1072 = .ok (.lconst 0, 1) := by decide +kernel
theorem dL_law_1073 : decode cL_law 1073 = .ok (.lcmp, 1) := by decide +kernel
theorem dL_law_1074 : decode cL_law 1074 = .ok (.ifCond .eq 5, 3) := by decide +kernel
theorem dL_law_1077 : decode cL_law 1077 = .ok (.iconst 0, 1) := by decide +kernel
theorem dL_law_1078 : decode cL_law 1078 = .ok (.ireturn, 1) := by decide +kernel
theorem dL_law_1079 : decode cL_law 1079 = .ok (.goto 1545, 3) := by decide +kernel
theorem dL_law_1082 : decode cL_law 1082 = .ok (.aload_n 1, 1) := by decide +kernel
theorem dL_law_1083 : decode cL_law 1083 = .ok (.aload_n 0, 1) := by decide +kernel
theorem dL_law_1084 : decode cL_law 1084 = .ok (.iload 5, 2) := by decide +kernel
theorem dL_law_1086 : decode cL_law 1086 = .ok (.iconst 1, 1) := by decide +kernel
theorem dL_law_1087 : decode cL_law 1087 = .ok (.iadd, 1) := by decide +kernel
theorem dL_law_1088 : decode cL_law 1088 = .ok (.iaload, 1) := by decide +kernel
theorem dL_law_1089 : decode cL_law 1089 = .ok (.aload_n 3, 1) := by decide +kernel
theorem dL_law_1090 : decode cL_law 1090 = .ok (.invokestatic 195, 3) := by decide +kernel
theorem dL_law_1093 : decode cL_law 1093 = .ok (.istore 6, 2) := by decide +kernel
theorem dL_law_1095 : decode cL_law 1095 = .ok (.aload_n 2, 1) := by decide +kernel
theorem dL_law_1096 : decode cL_law 1096 = .ok (.aload_n 0, 1) := by decide +kernel
theorem dL_law_1097 : decode cL_law 1097 = .ok (.iload 5, 2) := by decide +kernel
theorem dL_law_1099 : decode cL_law 1099 = .ok (.iconst 1, 1) := by decide +kernel
theorem dL_law_1100 : decode cL_law 1100 = .ok (.iadd, 1) := by decide +kernel
theorem dL_law_1101 : decode cL_law 1101 = .ok (.iaload, 1) := by decide +kernel
theorem dL_law_1102 : decode cL_law 1102 = .ok (.invokevirtual 197, 3) := by decide +kernel
theorem dL_law_1105 : decode cL_law 1105 = .ok (.istore 7, 2) := by decide +kernel
theorem dL_law_1107 : decode cL_law 1107 = .ok (.aload_n 2, 1) := by decide +kernel
theorem dL_law_1108 : decode cL_law 1108 = .ok (.invokevirtual 152, 3) := by decide +kernel
theorem dL_law_1111 : decode cL_law 1111 = .ok (.iload 6, 2) := by decide +kernel
theorem dL_law_1113 : decode cL_law 1113 = .ok (.if_icmp .eq 5, 3) := by decide +kernel
theorem dL_law_1116 : decode cL_law 1116 = .ok (.iconst 0, 1) := by decide +kernel
theorem dL_law_1117 : decode cL_law 1117 = .ok (.ireturn, 1) := by decide +kernel
theorem dL_law_1118 : decode cL_law 1118 = .ok (.iload 6, 2) := by decide +kernel
theorem dL_law_1120 : decode cL_law 1120 = .ok (.ifCond .ne 15, 3) := by decide +kernel
theorem dL_law_1123 : decode cL_law 1123 = .ok (.aload_n 3, 1) := by decide +kernel
theorem dL_law_1124 : decode cL_law 1124 = .ok (.iconst 0, 1) := by decide +kernel
theorem dL_law_1125 : decode cL_law 1125 = .ok (.laload, 1) := by decide +kernel
theorem dL_law_1126 : decode cL_law 1126 = .ok (.iload 7, 2) := by decide +kernel
theorem dL_law_1128 : decode cL_law 1128 = .ok (.i2l, 1) := by decide +kernel
theorem dL_law_1129 : decode cL_law 1129 = .ok (.lcmp, 1) := by decide +kernel
theorem dL_law_1130 : decode cL_law 1130 = .ok (.ifCond .eq 5, 3) := by decide +kernel
theorem dL_law_1133 : decode cL_law 1133 = .ok (.iconst 0, 1) := by decide +kernel
theorem dL_law_1134 : decode cL_law 1134 = .ok (.ireturn, 1) := by decide +kernel
theorem dL_law_1135 : decode cL_law 1135 = .ok (.goto 1489, 3) := by decide +kernel
theorem dL_law_1138 : decode cL_law 1138 = .ok (.aload_n 1, 1) := by decide +kernel
theorem dL_law_1139 : decode cL_law 1139 = .ok (.aload_n 0, 1) := by decide +kernel
theorem dL_law_1140 : decode cL_law 1140 = .ok (.iload 5, 2) := by decide +kernel
theorem dL_law_1142 : decode cL_law 1142 = .ok (.iconst 1, 1) := by decide +kernel
theorem dL_law_1143 : decode cL_law 1143 = .ok (.iadd, 1) := by decide +kernel
theorem dL_law_1144 : decode cL_law 1144 = .ok (.iaload, 1) := by decide +kernel
theorem dL_law_1145 : decode cL_law 1145 = .ok (.aload_n 3, 1) := by decide +kernel
theorem dL_law_1146 : decode cL_law 1146 = .ok (.invokestatic 198, 3) := by decide +kernel
theorem dL_law_1149 : decode cL_law 1149 = .ok (.istore 6, 2) := by decide +kernel
theorem dL_law_1151 : decode cL_law 1151 = .ok (.aload_n 2, 1) := by decide +kernel
theorem dL_law_1152 : decode cL_law 1152 = .ok (.aload_n 0, 1) := by decide +kernel
theorem dL_law_1153 : decode cL_law 1153 = .ok (.iload 5, 2) := by decide +kernel
theorem dL_law_1155 : decode cL_law 1155 = .ok (.iconst 1, 1) := by decide +kernel
theorem dL_law_1156 : decode cL_law 1156 = .ok (.iadd, 1) := by decide +kernel
theorem dL_law_1157 : decode cL_law 1157 = .ok (.iaload, 1) := by decide +kernel
theorem dL_law_1158 : decode cL_law 1158 = .ok (.invokevirtual 200, 3) := by decide +kernel
theorem dL_law_1161 : decode cL_law 1161 = .ok (.istore 7, 2) := by decide +kernel
theorem dL_law_1163 : decode cL_law 1163 = .ok (.aload_n 2, 1) := by decide +kernel
theorem dL_law_1164 : decode cL_law 1164 = .ok (.invokevirtual 152, 3) := by decide +kernel
theorem dL_law_1167 : decode cL_law 1167 = .ok (.iload 6, 2) := by decide +kernel
theorem dL_law_1169 : decode cL_law 1169 = .ok (.if_icmp .eq 5, 3) := by decide +kernel
theorem dL_law_1172 : decode cL_law 1172 = .ok (.iconst 0, 1) := by decide +kernel
theorem dL_law_1173 : decode cL_law 1173 = .ok (.ireturn, 1) := by decide +kernel
theorem dL_law_1174 : decode cL_law 1174 = .ok (.iload 6, 2) := by decide +kernel
theorem dL_law_1176 : decode cL_law 1176 = .ok (.ifCond .ne 15, 3) := by decide +kernel
theorem dL_law_1179 : decode cL_law 1179 = .ok (.aload_n 3, 1) := by decide +kernel
theorem dL_law_1180 : decode cL_law 1180 = .ok (.iconst 0, 1) := by decide +kernel
theorem dL_law_1181 : decode cL_law 1181 = .ok (.laload, 1) := by decide +kernel
theorem dL_law_1182 : decode cL_law 1182 = .ok (.iload 7, 2) := by decide +kernel
theorem dL_law_1184 : decode cL_law 1184 = .ok (.i2l, 1) := by decide +kernel
theorem dL_law_1185 : decode cL_law 1185 = .ok (.lcmp, 1) := by decide +kernel
theorem dL_law_1186 : decode cL_law 1186 = .ok (.ifCond .eq 5, 3) := by decide +kernel
theorem dL_law_1189 : decode cL_law 1189 = .ok (.iconst 0, 1) := by decide +kernel
theorem dL_law_1190 : decode cL_law 1190 = .ok (.ireturn, 1) := by decide +kernel
theorem dL_law_1191 : decode cL_law 1191 = .ok (.goto 1433, 3) := by decide +kernel
theorem dL_law_1194 : decode cL_law 1194 = .ok (.aload_n 1, 1) := by decide +kernel
theorem dL_law_1195 : decode cL_law 1195 = .ok (.aload_n 0, 1) := by decide +kernel
theorem dL_law_1196 : decode cL_law 1196 = .ok (.iload 5, 2) := by decide +kernel
theorem dL_law_1198 : decode cL_law 1198 = .ok (.iconst 1, 1) := by decide +kernel
theorem dL_law_1199 : decode cL_law 1199 = .ok (.iadd, 1) := by decide +kernel
theorem dL_law_1200 : decode cL_law 1200 = .ok (.iaload, 1) := by decide +kernel
theorem dL_law_1201 : decode cL_law 1201 = .ok (.aload_n 3, 1) := by decide +kernel
theorem dL_law_1202 : decode cL_law 1202 = .ok (.invokestatic 201, 3) := by decide +kernel
theorem dL_law_1205 : decode cL_law 1205 = .ok (.istore 6, 2) := by decide +kernel
theorem dL_law_1207 : decode cL_law 1207 = .ok (.aload_n 2, 1) := by decide +kernel
theorem dL_law_1208 : decode cL_law 1208 = .ok (.aload_n 0, 1) := by decide +kernel
theorem dL_law_1209 : decode cL_law 1209 = .ok (.iload 5, 2) := by decide +kernel
theorem dL_law_1211 : decode cL_law 1211 = .ok (.iconst 1, 1) := by decide +kernel
theorem dL_law_1212 : decode cL_law 1212 = .ok (.iadd, 1) := by decide +kernel
theorem dL_law_1213 : decode cL_law 1213 = .ok (.iaload, 1) := by decide +kernel
theorem dL_law_1214 : decode cL_law 1214 = .ok (.invokevirtual 203, 3) := by decide +kernel
theorem dL_law_1217 : decode cL_law 1217 = .ok (.istore 7, 2) := by decide +kernel
theorem dL_law_1219 : decode cL_law 1219 = .ok (.aload_n 2, 1) := by decide +kernel
theorem dL_law_1220 : decode cL_law 1220 = .ok (.invokevirtual 152, 3) := by decide +kernel
theorem dL_law_1223 : decode cL_law 1223 = .ok (.iload 6, 2) := by decide +kernel
theorem dL_law_1225 : decode cL_law 1225 = .ok (.if_icmp .eq 5, 3) := by decide +kernel
theorem dL_law_1228 : decode cL_law 1228 = .ok (.iconst 0, 1) := by decide +kernel
theorem dL_law_1229 : decode cL_law 1229 = .ok (.ireturn, 1) := by decide +kernel
theorem dL_law_1230 : decode cL_law 1230 = .ok (.iload 6, 2) := by decide +kernel
theorem dL_law_1232 : decode cL_law 1232 = .ok (.ifCond .ne 15, 3) := by decide +kernel
theorem dL_law_1235 : decode cL_law 1235 = .ok (.aload_n 3, 1) := by decide +kernel
theorem dL_law_1236 : decode cL_law 1236 = .ok (.iconst 0, 1) := by decide +kernel
theorem dL_law_1237 : decode cL_law 1237 = .ok (.laload, 1) := by decide +kernel
theorem dL_law_1238 : decode cL_law 1238 = .ok (.iload 7, 2) := by decide +kernel
theorem dL_law_1240 : decode cL_law 1240 = .ok (.i2l, 1) := by decide +kernel
theorem dL_law_1241 : decode cL_law 1241 = .ok (.lcmp, 1) := by decide +kernel
theorem dL_law_1242 : decode cL_law 1242 = .ok (.ifCond .eq 5, 3) := by decide +kernel
theorem dL_law_1245 : decode cL_law 1245 = .ok (.iconst 0, 1) := by decide +kernel
theorem dL_law_1246 : decode cL_law 1246 = .ok (.ireturn, 1) := by decide +kernel
theorem dL_law_1247 : decode cL_law 1247 = .ok (.goto 1377, 3) := by decide +kernel
theorem dL_law_1250 : decode cL_law 1250 = .ok (.aload_n 1, 1) := by decide +kernel
theorem dL_law_1251 : decode cL_law 1251 = .ok (.aload_n 0, 1) := by decide +kernel
theorem dL_law_1252 : decode cL_law 1252 = .ok (.iload 5, 2) := by decide +kernel
theorem dL_law_1254 : decode cL_law 1254 = .ok (.iconst 1, 1) := by decide +kernel
theorem dL_law_1255 : decode cL_law 1255 = .ok (.iadd, 1) := by decide +kernel
theorem dL_law_1256 : decode cL_law 1256 = .ok (.iaload, 1) := by decide +kernel
theorem dL_law_1257 : decode cL_law 1257 = .ok (.aload_n 3, 1) := by decide +kernel
theorem dL_law_1258 : decode cL_law 1258 = .ok (.invokestatic 204, 3) := by decide +kernel
theorem dL_law_1261 : decode cL_law 1261 = .ok (.istore 6, 2) := by decide +kernel
theorem dL_law_1263 : decode cL_law 1263 = .ok (.aload_n 2, 1) := by decide +kernel
theorem dL_law_1264 : decode cL_law 1264 = .ok (.aload_n 0, 1) := by decide +kernel
theorem dL_law_1265 : decode cL_law 1265 = .ok (.iload 5, 2) := by decide +kernel
theorem dL_law_1267 : decode cL_law 1267 = .ok (.iconst 1, 1) := by decide +kernel
theorem dL_law_1268 : decode cL_law 1268 = .ok (.iadd, 1) := by decide +kernel
theorem dL_law_1269 : decode cL_law 1269 = .ok (.iaload, 1) := by decide +kernel
theorem dL_law_1270 : decode cL_law 1270 = .ok (.invokevirtual 206, 3) := by decide +kernel
theorem dL_law_1273 : decode cL_law 1273 = .ok (.istore 7, 2) := by decide +kernel
theorem dL_law_1275 : decode cL_law 1275 = .ok (.aload_n 2, 1) := by decide +kernel
theorem dL_law_1276 : decode cL_law 1276 = .ok (.invokevirtual 152, 3) := by decide +kernel
theorem dL_law_1279 : decode cL_law 1279 = .ok (.iload 6, 2) := by decide +kernel
theorem dL_law_1281 : decode cL_law 1281 = .ok (.if_icmp .eq 5, 3) := by decide +kernel
theorem dL_law_1284 : decode cL_law 1284 = .ok (.iconst 0, 1) := by decide +kernel
theorem dL_law_1285 : decode cL_law 1285 = .ok (.ireturn, 1) := by decide +kernel
theorem dL_law_1286 : decode cL_law 1286 = .ok (.iload 6, 2) := by decide +kernel
theorem dL_law_1288 : decode cL_law 1288 = .ok (.ifCond .ne 15, 3) := by decide +kernel
theorem dL_law_1291 : decode cL_law 1291 = .ok (.aload_n 3, 1) := by decide +kernel
theorem dL_law_1292 : decode cL_law 1292 = .ok (.iconst 0, 1) := by decide +kernel
theorem dL_law_1293 : decode cL_law 1293 = .ok (.laload, 1) := by decide +kernel
theorem dL_law_1294 : decode cL_law 1294 = .ok (.iload 7, 2) := by decide +kernel
theorem dL_law_1296 : decode cL_law 1296 = .ok (.i2l, 1) := by decide +kernel
theorem dL_law_1297 : decode cL_law 1297 = .ok (.lcmp, 1) := by decide +kernel
theorem dL_law_1298 : decode cL_law 1298 = .ok (.ifCond .eq 5, 3) := by decide +kernel
theorem dL_law_1301 : decode cL_law 1301 = .ok (.iconst 0, 1) := by decide +kernel
theorem dL_law_1302 : decode cL_law 1302 = .ok (.ireturn, 1) := by decide +kernel
theorem dL_law_1303 : decode cL_law 1303 = .ok (.goto 1321, 3) := by decide +kernel
theorem dL_law_1306 : decode cL_law 1306 = .ok (.aload_n 1, 1) := by decide +kernel
theorem dL_law_1307 : decode cL_law 1307 = .ok (.aload_n 0, 1) := by decide +kernel
theorem dL_law_1308 : decode cL_law 1308 = .ok (.iload 5, 2) := by decide +kernel
theorem dL_law_1310 : decode cL_law 1310 = .ok (.iconst 1, 1) := by decide +kernel
theorem dL_law_1311 : decode cL_law 1311 = .ok (.iadd, 1) := by decide +kernel
theorem dL_law_1312 : decode cL_law 1312 = .ok (.iaload, 1) := by decide +kernel
theorem dL_law_1313 : decode cL_law 1313 = .ok (.aload_n 3, 1) := by decide +kernel
theorem dL_law_1314 : decode cL_law 1314 = .ok (.invokestatic 207, 3) := by decide +kernel
theorem dL_law_1317 : decode cL_law 1317 = .ok (.istore 6, 2) := by decide +kernel
theorem dL_law_1319 : decode cL_law 1319 = .ok (.aload_n 2, 1) := by decide +kernel
theorem dL_law_1320 : decode cL_law 1320 = .ok (.aload_n 0, 1) := by decide +kernel
theorem dL_law_1321 : decode cL_law 1321 = .ok (.iload 5, 2) := by decide +kernel
theorem dL_law_1323 : decode cL_law 1323 = .ok (.iconst 1, 1) := by decide +kernel
theorem dL_law_1324 : decode cL_law 1324 = .ok (.iadd, 1) := by decide +kernel
theorem dL_law_1325 : decode cL_law 1325 = .ok (.iaload, 1) := by decide +kernel
theorem dL_law_1326 : decode cL_law 1326 = .ok (.invokevirtual 209, 3) := by decide +kernel
theorem dL_law_1329 : decode cL_law 1329 = .ok (.istore 7, 2) := by decide +kernel
theorem dL_law_1331 : decode cL_law 1331 = .ok (.aload_n 2, 1) := by decide +kernel
theorem dL_law_1332 : decode cL_law 1332 = .ok (.invokevirtual 152, 3) := by decide +kernel
theorem dL_law_1335 : decode cL_law 1335 = .ok (.iload 6, 2) := by decide +kernel
theorem dL_law_1337 : decode cL_law 1337 = .ok (.if_icmp .eq 5, 3) := by decide +kernel
theorem dL_law_1340 : decode cL_law 1340 = .ok (.iconst 0, 1) := by decide +kernel
theorem dL_law_1341 : decode cL_law 1341 = .ok (.ireturn, 1) := by decide +kernel
theorem dL_law_1342 : decode cL_law 1342 = .ok (.iload 6, 2) := by decide +kernel
theorem dL_law_1344 : decode cL_law 1344 = .ok (.ifCond .ne 15, 3) := by decide +kernel
theorem dL_law_1347 : decode cL_law 1347 = .ok (.aload_n 3, 1) := by decide +kernel
theorem dL_law_1348 : decode cL_law 1348 = .ok (.iconst 0, 1) := by decide +kernel
theorem dL_law_1349 : decode cL_law 1349 = .ok (.laload, 1) := by decide +kernel
theorem dL_law_1350 : decode cL_law 1350 = .ok (.iload 7, 2) := by decide +kernel
theorem dL_law_1352 : decode cL_law 1352 = .ok (.i2l, 1) := by decide +kernel
theorem dL_law_1353 : decode cL_law 1353 = .ok (.lcmp, 1) := by decide +kernel
theorem dL_law_1354 : decode cL_law 1354 = .ok (.ifCond .eq 5, 3) := by decide +kernel
theorem dL_law_1357 : decode cL_law 1357 = .ok (.iconst 0, 1) := by decide +kernel
theorem dL_law_1358 : decode cL_law 1358 = .ok (.ireturn, 1) := by decide +kernel
theorem dL_law_1359 : decode cL_law 1359 = .ok (.goto 1265, 3) := by decide +kernel
theorem dL_law_1362 : decode cL_law 1362 = .ok (.aload_n 1, 1) := by decide +kernel
theorem dL_law_1363 : decode cL_law 1363 = .ok (.aload_n 0, 1) := by decide +kernel
theorem dL_law_1364 : decode cL_law 1364 = .ok (.iload 5, 2) := by decide +kernel
theorem dL_law_1366 : decode cL_law 1366 = .ok (.iconst 1, 1) := by decide +kernel
theorem dL_law_1367 : decode cL_law 1367 = .ok (.iadd, 1) := by decide +kernel
theorem dL_law_1368 : decode cL_law 1368 = .ok (.iaload, 1) := by decide +kernel
theorem dL_law_1369 : decode cL_law 1369 = .ok (.aload_n 3, 1) := by decide +kernel
theorem dL_law_1370 : decode cL_law 1370 = .ok (.invokestatic 210, 3) := by decide +kernel
theorem dL_law_1373 : decode cL_law 1373 = .ok (.istore 6, 2) := by decide +kernel
theorem dL_law_1375 : decode cL_law 1375 = .ok (.aload_n 2, 1) := by decide +kernel
theorem dL_law_1376 : decode cL_law 1376 = .ok (.aload_n 0, 1) := by decide +kernel
theorem dL_law_1377 : decode cL_law 1377 = .ok (.iload 5, 2) := by decide +kernel
theorem dL_law_1379 : decode cL_law 1379 = .ok (.iconst 1, 1) := by decide +kernel
theorem dL_law_1380 : decode cL_law 1380 = .ok (.iadd, 1) := by decide +kernel
theorem dL_law_1381 : decode cL_law 1381 = .ok (.iaload, 1) := by decide +kernel
theorem dL_law_1382 : decode cL_law 1382 = .ok (.invokevirtual 212, 3) := by decide +kernel
theorem dL_law_1385 : decode cL_law 1385 = .ok (.istore 7, 2) := by decide +kernel
theorem dL_law_1387 : decode cL_law 1387 = .ok (.aload_n 2, 1) := by decide +kernel
theorem dL_law_1388 : decode cL_law 1388 = .ok (.invokevirtual 152, 3) := by decide +kernel
theorem dL_law_1391 : decode cL_law 1391 = .ok (.iload 6, 2) := by decide +kernel
theorem dL_law_1393 : decode cL_law 1393 = .ok (.if_icmp .eq 5, 3) := by decide +kernel
theorem dL_law_1396 : decode cL_law 1396 = .ok (.iconst 0, 1) := by decide +kernel
theorem dL_law_1397 : decode cL_law 1397 = .ok (.ireturn, 1) := by decide +kernel
theorem dL_law_1398 : decode cL_law 1398 = .ok (.iload 6, 2) := by decide +kernel
theorem dL_law_1400 : decode cL_law 1400 = .ok (.ifCond .ne 15, 3) := by decide +kernel
theorem dL_law_1403 : decode cL_law 1403 = .ok (.aload_n 3, 1) := by decide +kernel
theorem dL_law_1404 : decode cL_law 1404 = .ok (.iconst 0, 1) := by decide +kernel
theorem dL_law_1405 : decode cL_law 1405 = .ok (.laload, 1) := by decide +kernel
theorem dL_law_1406 : decode cL_law 1406 = .ok (.iload 7, 2) := by decide +kernel
theorem dL_law_1408 : decode cL_law 1408 = .ok (.i2l, 1) := by decide +kernel
theorem dL_law_1409 : decode cL_law 1409 = .ok (.lcmp, 1) := by decide +kernel
theorem dL_law_1410 : decode cL_law 1410 = .ok (.ifCond .eq 5, 3) := by decide +kernel
theorem dL_law_1413 : decode cL_law 1413 = .ok (.iconst 0, 1) := by decide +kernel
theorem dL_law_1414 : decode cL_law 1414 = .ok (.ireturn, 1) := by decide +kernel
theorem dL_law_1415 : decode cL_law 1415 = .ok (.goto 1209, 3) := by decide +kernel
theorem dL_law_1418 : decode cL_law 1418 = .ok (.aload_n 1, 1) := by decide +kernel
theorem dL_law_1419 : decode cL_law 1419 = .ok (.aload_n 0, 1) := by decide +kernel
theorem dL_law_1420 : decode cL_law 1420 = .ok (.iload 5, 2) := by decide +kernel
theorem dL_law_1422 : decode cL_law 1422 = .ok (.iconst 1, 1) := by decide +kernel
theorem dL_law_1423 : decode cL_law 1423 = .ok (.iadd, 1) := by decide +kernel
theorem dL_law_1424 : decode cL_law 1424 = .ok (.iaload, 1) := by decide +kernel
theorem dL_law_1425 : decode cL_law 1425 = .ok (.aload_n 3, 1) := by decide +kernel
theorem dL_law_1426 : decode cL_law 1426 = .ok (.invokestatic 213, 3) := by decide +kernel
theorem dL_law_1429 : decode cL_law 1429 = .ok (.istore 6, 2) := by decide +kernel
theorem dL_law_1431 : decode cL_law 1431 = .ok (.aload_n 2, 1) := by decide +kernel
theorem dL_law_1432 : decode cL_law 1432 = .ok (.aload_n 0, 1) := by decide +kernel
theorem dL_law_1433 : decode cL_law 1433 = .ok (.iload 5, 2) := by decide +kernel
theorem dL_law_1435 : decode cL_law 1435 = .ok (.iconst 1, 1) := by decide +kernel
theorem dL_law_1436 : decode cL_law 1436 = .ok (.iadd, 1) := by decide +kernel
theorem dL_law_1437 : decode cL_law 1437 = .ok (.iaload, 1) := by decide +kernel
theorem dL_law_1438 : decode cL_law 1438 = .ok (.invokevirtual 215, 3) := by decide +kernel
theorem dL_law_1441 : decode cL_law 1441 = .ok (.istore 7, 2) := by decide +kernel
theorem dL_law_1443 : decode cL_law 1443 = .ok (.aload_n 2, 1) := by decide +kernel
theorem dL_law_1444 : decode cL_law 1444 = .ok (.invokevirtual 152, 3) := by decide +kernel
theorem dL_law_1447 : decode cL_law 1447 = .ok (.iload 6, 2) := by decide +kernel
theorem dL_law_1449 : decode cL_law 1449 = .ok (.if_icmp .eq 5, 3) := by decide +kernel
theorem dL_law_1452 : decode cL_law 1452 = .ok (.iconst 0, 1) := by decide +kernel
theorem dL_law_1453 : decode cL_law 1453 = .ok (.ireturn, 1) := by decide +kernel
theorem dL_law_1454 : decode cL_law 1454 = .ok (.iload 6, 2) := by decide +kernel
theorem dL_law_1456 : decode cL_law 1456 = .ok (.ifCond .ne 15, 3) := by decide +kernel
theorem dL_law_1459 : decode cL_law 1459 = .ok (.aload_n 3, 1) := by decide +kernel
theorem dL_law_1460 : decode cL_law 1460 = .ok (.iconst 0, 1) := by decide +kernel
theorem dL_law_1461 : decode cL_law 1461 = .ok (.laload, 1) := by decide +kernel
theorem dL_law_1462 : decode cL_law 1462 = .ok (.iload 7, 2) := by decide +kernel
theorem dL_law_1464 : decode cL_law 1464 = .ok (.i2l, 1) := by decide +kernel
theorem dL_law_1465 : decode cL_law 1465 = .ok (.lcmp, 1) := by decide +kernel
theorem dL_law_1466 : decode cL_law 1466 = .ok (.ifCond .eq 5, 3) := by decide +kernel
theorem dL_law_1469 : decode cL_law 1469 = .ok (.iconst 0, 1) := by decide +kernel
theorem dL_law_1470 : decode cL_law 1470 = .ok (.ireturn, 1) := by decide +kernel
theorem dL_law_1471 : decode cL_law 1471 = .ok (.goto 1153, 3) := by decide +kernel
theorem dL_law_1474 : decode cL_law 1474 = .ok (.aload_n 1, 1) := by decide +kernel
theorem dL_law_1475 : decode cL_law 1475 = .ok (.aload_n 0, 1) := by decide +kernel
theorem dL_law_1476 : decode cL_law 1476 = .ok (.iload 5, 2) := by decide +kernel
theorem dL_law_1478 : decode cL_law 1478 = .ok (.iconst 1, 1) := by decide +kernel
theorem dL_law_1479 : decode cL_law 1479 = .ok (.iadd, 1) := by decide +kernel
theorem dL_law_1480 : decode cL_law 1480 = .ok (.iaload, 1) := by decide +kernel
theorem dL_law_1481 : decode cL_law 1481 = .ok (.aload_n 0, 1) := by decide +kernel
theorem dL_law_1482 : decode cL_law 1482 = .ok (.iload 5, 2) := by decide +kernel
theorem dL_law_1484 : decode cL_law 1484 = .ok (.iconst 2, 1) := by decide +kernel
theorem dL_law_1485 : decode cL_law 1485 = .ok (.iadd, 1) := by decide +kernel
theorem dL_law_1486 : decode cL_law 1486 = .ok (.iaload, 1) := by decide +kernel
theorem dL_law_1487 : decode cL_law 1487 = .ok (.aload_n 0, 1) := by decide +kernel
theorem dL_law_1488 : decode cL_law 1488 = .ok (.iload 5, 2) := by decide +kernel
theorem dL_law_1490 : decode cL_law 1490 = .ok (.iconst 3, 1) := by decide +kernel
theorem dL_law_1491 : decode cL_law 1491 = .ok (.iadd, 1) := by decide +kernel
theorem dL_law_1492 : decode cL_law 1492 = .ok (.iaload, 1) := by decide +kernel
theorem dL_law_1493 : decode cL_law 1493 = .ok (.aload_n 3, 1) := by decide +kernel
theorem dL_law_1494 : decode cL_law 1494 = .ok (.invokestatic 216, 3) := by decide +kernel
theorem dL_law_1497 : decode cL_law 1497 = .ok (.istore 6, 2) := by decide +kernel
theorem dL_law_1499 : decode cL_law 1499 = .ok (.aload_n 2, 1) := by decide +kernel
theorem dL_law_1500 : decode cL_law 1500 = .ok (.aload_n 0, 1) := by decide +kernel
theorem dL_law_1501 : decode cL_law 1501 = .ok (.iload 5, 2) := by decide +kernel
theorem dL_law_1503 : decode cL_law 1503 = .ok (.iconst 1, 1) := by decide +kernel
theorem dL_law_1504 : decode cL_law 1504 = .ok (.iadd, 1) := by decide +kernel
theorem dL_law_1505 : decode cL_law 1505 = .ok (.iaload, 1) := by decide +kernel
theorem dL_law_1506 : decode cL_law 1506 = .ok (.aload_n 0, 1) := by decide +kernel
theorem dL_law_1507 : decode cL_law 1507 = .ok (.iload 5, 2) := by decide +kernel
theorem dL_law_1509 : decode cL_law 1509 = .ok (.iconst 2, 1) := by decide +kernel
theorem dL_law_1510 : decode cL_law 1510 = .ok (.iadd, 1) := by decide +kernel
theorem dL_law_1511 : decode cL_law 1511 = .ok (.iaload, 1) := by decide +kernel
theorem dL_law_1512 : decode cL_law 1512 = .ok (.aload_n 0, 1) := by decide +kernel
theorem dL_law_1513 : decode cL_law 1513 = .ok (.iload 5, 2) := by decide +kernel
theorem dL_law_1515 : decode cL_law 1515 = .ok (.iconst 3, 1) := by decide +kernel
theorem dL_law_1516 : decode cL_law 1516 = .ok (.iadd, 1) := by decide +kernel
theorem dL_law_1517 : decode cL_law 1517 = .ok (.iaload, 1) := by decide +kernel
theorem dL_law_1518 : decode cL_law 1518 = .ok (.invokevirtual 218, 3) := by decide +kernel
theorem dL_law_1521 : decode cL_law 1521 = .ok (.istore 7, 2) := by decide +kernel
theorem dL_law_1523 : decode cL_law 1523 = .ok (.aload_n 2, 1) := by decide +kernel
theorem dL_law_1524 : decode cL_law 1524 = .ok (.invokevirtual 152, 3) := by decide +kernel
theorem dL_law_1527 : decode cL_law 1527 = .ok (.iload 6, 2) := by decide +kernel
theorem dL_law_1529 : decode cL_law 1529 = .ok (.if_icmp .eq 5, 3) := by decide +kernel
theorem dL_law_1532 : decode cL_law 1532 = .ok (.iconst 0, 1) := by decide +kernel
theorem dL_law_1533 : decode cL_law 1533 = .ok (.ireturn, 1) := by decide +kernel
theorem dL_law_1534 : decode cL_law 1534 = .ok (.iload 6, 2) := by decide +kernel
theorem dL_law_1536 : decode cL_law 1536 = .ok (.ifCond .ne 15, 3) := by decide +kernel
theorem dL_law_1539 : decode cL_law 1539 = .ok (.aload_n 3, 1) := by decide +kernel
theorem dL_law_1540 : decode cL_law 1540 = .ok (.iconst 0, 1) := by decide +kernel
theorem dL_law_1541 : decode cL_law 1541 = .ok (.laload, 1) := by decide +kernel
theorem dL_law_1542 : decode cL_law 1542 = .ok (.iload 7, 2) := by decide +kernel
theorem dL_law_1544 : decode cL_law 1544 = .ok (.i2l, 1) := by decide +kernel
theorem dL_law_1545 : decode cL_law 1545 = .ok (.lcmp, 1) := by decide +kernel
theorem dL_law_1546 : decode cL_law 1546 = .ok (.ifCond .eq 5, 3) := by decide +kernel
theorem dL_law_1549 : decode cL_law 1549 = .ok (.iconst 0, 1) := by decide +kernel
theorem dL_law_1550 : decode cL_law 1550 = .ok (.ireturn, 1) := by decide +kernel
theorem dL_law_1551 : decode cL_law 1551 = .ok (.goto 1073, 3) := by decide +kernel
theorem dL_law_1554 : decode cL_law 1554 = .ok (.aload_n 1, 1) := by decide +kernel
theorem dL_law_1555 : decode cL_law 1555 = .ok (.aload_n 0, 1) := by decide +kernel
theorem dL_law_1556 : decode cL_law 1556 = .ok (.iload 5, 2) := by decide +kernel
theorem dL_law_1558 : decode cL_law 1558 = .ok (.iconst 1, 1) := by decide +kernel
theorem dL_law_1559 : decode cL_law 1559 = .ok (.iadd, 1) := by decide +kernel
theorem dL_law_1560 : decode cL_law 1560 = .ok (.iaload, 1) := by decide +kernel
theorem dL_law_1561 : decode cL_law 1561 = .ok (.aload_n 3, 1) := by decide +kernel
theorem dL_law_1562 : decode cL_law 1562 = .ok (.invokestatic 219, 3) := by decide +kernel
theorem dL_law_1565 : decode cL_law 1565 = .ok (.istore 6, 2) := by decide +kernel
theorem dL_law_1567 : decode cL_law 1567 = .ok (.aload_n 2, 1) := by decide +kernel
theorem dL_law_1568 : decode cL_law 1568 = .ok (.aload_n 0, 1) := by decide +kernel
theorem dL_law_1569 : decode cL_law 1569 = .ok (.iload 5, 2) := by decide +kernel
theorem dL_law_1571 : decode cL_law 1571 = .ok (.iconst 1, 1) := by decide +kernel
theorem dL_law_1572 : decode cL_law 1572 = .ok (.iadd, 1) := by decide +kernel
theorem dL_law_1573 : decode cL_law 1573 = .ok (.iaload, 1) := by decide +kernel
theorem dL_law_1574 : decode cL_law 1574 = .ok (.invokevirtual 221, 3) := by decide +kernel
theorem dL_law_1577 : decode cL_law 1577 = .ok (.istore 7, 2) := by decide +kernel
theorem dL_law_1579 : decode cL_law 1579 = .ok (.aload_n 2, 1) := by decide +kernel
theorem dL_law_1580 : decode cL_law 1580 = .ok (.invokevirtual 152, 3) := by decide +kernel
theorem dL_law_1583 : decode cL_law 1583 = .ok (.iload 6, 2) := by decide +kernel
theorem dL_law_1585 : decode cL_law 1585 = .ok (.if_icmp .eq 5, 3) := by decide +kernel
theorem dL_law_1588 : decode cL_law 1588 = .ok (.iconst 0, 1) := by decide +kernel
theorem dL_law_1589 : decode cL_law 1589 = .ok (.ireturn, 1) := by decide +kernel
theorem dL_law_1590 : decode cL_law 1590 = .ok (.iload 6, 2) := by decide +kernel
theorem dL_law_1592 : decode cL_law 1592 = .ok (.ifCond .ne 15, 3) := by decide +kernel
theorem dL_law_1595 : decode cL_law 1595 = .ok (.aload_n 3, 1) := by decide +kernel
theorem dL_law_1596 : decode cL_law 1596 = .ok (.iconst 0, 1) := by decide +kernel
theorem dL_law_1597 : decode cL_law 1597 = .ok (.laload, 1) := by decide +kernel
theorem dL_law_1598 : decode cL_law 1598 = .ok (.iload 7, 2) := by decide +kernel
theorem dL_law_1600 : decode cL_law 1600 = .ok (.i2l, 1) := by decide +kernel
theorem dL_law_1601 : decode cL_law 1601 = .ok (.lcmp, 1) := by decide +kernel
theorem dL_law_1602 : decode cL_law 1602 = .ok (.ifCond .eq 5, 3) := by decide +kernel
theorem dL_law_1605 : decode cL_law 1605 = .ok (.iconst 0, 1) := by decide +kernel
theorem dL_law_1606 : decode cL_law 1606 = .ok (.ireturn, 1) := by decide +kernel
theorem dL_law_1607 : decode cL_law 1607 = .ok (.goto 1017, 3) := by decide +kernel
theorem dL_law_1610 : decode cL_law 1610 = .ok (.aload_n 1, 1) := by decide +kernel
theorem dL_law_1611 : decode cL_law 1611 = .ok (.aload_n 0, 1) := by decide +kernel
theorem dL_law_1612 : decode cL_law 1612 = .ok (.iload 5, 2) := by decide +kernel
theorem dL_law_1614 : decode cL_law 1614 = .ok (.iconst 1, 1) := by decide +kernel
theorem dL_law_1615 : decode cL_law 1615 = .ok (.iadd, 1) := by decide +kernel
theorem dL_law_1616 : decode cL_law 1616 = .ok (.iaload, 1) := by decide +kernel
theorem dL_law_1617 : decode cL_law 1617 = .ok (.aload_n 3, 1) := by decide +kernel
theorem dL_law_1618 : decode cL_law 1618 = .ok (.invokestatic 222, 3) := by decide +kernel
theorem dL_law_1621 : decode cL_law 1621 = .ok (.istore 6, 2) := by decide +kernel
theorem dL_law_1623 : decode cL_law 1623 = .ok (.aload_n 2, 1) := by decide +kernel
theorem dL_law_1624 : decode cL_law 1624 = .ok (.aload_n 0, 1) := by decide +kernel
theorem dL_law_1625 : decode cL_law 1625 = .ok (.iload 5, 2) := by decide +kernel
theorem dL_law_1627 : decode cL_law 1627 = .ok (.iconst 1, 1) := by decide +kernel
theorem dL_law_1628 : decode cL_law 1628 = .ok (.iadd, 1) := by decide +kernel
theorem dL_law_1629 : decode cL_law 1629 = .ok (.iaload, 1) := by decide +kernel
theorem dL_law_1630 : decode cL_law 1630 = .ok (.invokevirtual 224, 3) := by decide +kernel
theorem dL_law_1633 : decode cL_law 1633 = .ok (.istore 7, 2) := by decide +kernel
theorem dL_law_1635 : decode cL_law 1635 = .ok (.aload_n 2, 1) := by decide +kernel
theorem dL_law_1636 : decode cL_law 1636 = .ok (.invokevirtual 152, 3) := by decide +kernel
theorem dL_law_1639 : decode cL_law 1639 = .ok (.iload 6, 2) := by decide +kernel
theorem dL_law_1641 : decode cL_law 1641 = .ok (.if_icmp .eq 5, 3) := by decide +kernel
theorem dL_law_1644 : decode cL_law 1644 = .ok (.iconst 0, 1) := by decide +kernel
theorem dL_law_1645 : decode cL_law 1645 = .ok (.ireturn, 1) := by decide +kernel
theorem dL_law_1646 : decode cL_law 1646 = .ok (.iload 6, 2) := by decide +kernel
theorem dL_law_1648 : decode cL_law 1648 = .ok (.ifCond .ne 15, 3) := by decide +kernel
theorem dL_law_1651 : decode cL_law 1651 = .ok (.aload_n 3, 1) := by decide +kernel
theorem dL_law_1652 : decode cL_law 1652 = .ok (.iconst 0, 1) := by decide +kernel
theorem dL_law_1653 : decode cL_law 1653 = .ok (.laload, 1) := by decide +kernel
theorem dL_law_1654 : decode cL_law 1654 = .ok (.iload 7, 2) := by decide +kernel
theorem dL_law_1656 : decode cL_law 1656 = .ok (.i2l, 1) := by decide +kernel
theorem dL_law_1657 : decode cL_law 1657 = .ok (.lcmp, 1) := by decide +kernel
theorem dL_law_1658 : decode cL_law 1658 = .ok (.ifCond .eq 5, 3) := by decide +kernel
theorem dL_law_1661 : decode cL_law 1661 = .ok (.iconst 0, 1) := by decide +kernel
theorem dL_law_1662 : decode cL_law 1662 = .ok (.ireturn, 1) := by decide +kernel
theorem dL_law_1663 : decode cL_law 1663 = .ok (.goto 961, 3) := by decide +kernel
theorem dL_law_1666 : decode cL_law 1666 = .ok (.aload_n 1, 1) := by decide +kernel
theorem dL_law_1667 : decode cL_law 1667 = .ok (.aload_n 0, 1) := by decide +kernel
theorem dL_law_1668 : decode cL_law 1668 = .ok (.iload 5, 2) := by decide +kernel
theorem dL_law_1670 : decode cL_law 1670 = .ok (.iconst 1, 1) := by decide +kernel
theorem dL_law_1671 : decode cL_law 1671 = .ok (.iadd, 1) := by decide +kernel
theorem dL_law_1672 : decode cL_law 1672 = .ok (.iaload, 1) := by decide +kernel
theorem dL_law_1673 : decode cL_law 1673 = .ok (.aload_n 3, 1) := by decide +kernel
theorem dL_law_1674 : decode cL_law 1674 = .ok (.invokestatic 225, 3) := by decide +kernel
theorem dL_law_1677 : decode cL_law 1677 = .ok (.istore 6, 2) := by decide +kernel
theorem dL_law_1679 : decode cL_law 1679 = .ok (.aload_n 2, 1) := by decide +kernel
theorem dL_law_1680 : decode cL_law 1680 = .ok (.aload_n 0, 1) := by decide +kernel
theorem dL_law_1681 : decode cL_law 1681 = .ok (.iload 5, 2) := by decide +kernel
theorem dL_law_1683 : decode cL_law 1683 = .ok (.iconst 1, 1) := by decide +kernel
theorem dL_law_1684 : decode cL_law 1684 = .ok (.iadd, 1) := by decide +kernel
theorem dL_law_1685 : decode cL_law 1685 = .ok (.iaload, 1) := by decide +kernel
theorem dL_law_1686 : decode cL_law 1686 = .ok (.invokevirtual 227, 3) := by decide +kernel
theorem dL_law_1689 : decode cL_law 1689 = .ok (.istore 7, 2) := by decide +kernel
theorem dL_law_1691 : decode cL_law 1691 = .ok (.aload_n 2, 1) := by decide +kernel
theorem dL_law_1692 : decode cL_law 1692 = .ok (.invokevirtual 152, 3) := by decide +kernel
theorem dL_law_1695 : decode cL_law 1695 = .ok (.iload 6, 2) := by decide +kernel
theorem dL_law_1697 : decode cL_law 1697 = .ok (.if_icmp .eq 5, 3) := by decide +kernel
theorem dL_law_1700 : decode cL_law 1700 = .ok (.iconst 0, 1) := by decide +kernel
theorem dL_law_1701 : decode cL_law 1701 = .ok (.ireturn, 1) := by decide +kernel
theorem dL_law_1702 : decode cL_law 1702 = .ok (.iload 6, 2) := by decide +kernel
theorem dL_law_1704 : decode cL_law 1704 = .ok (.ifCond .ne 15, 3) := by decide +kernel
theorem dL_law_1707 : decode cL_law 1707 = .ok (.aload_n 3, 1) := by decide +kernel
theorem dL_law_1708 : decode cL_law 1708 = .ok (.iconst 0, 1) := by decide +kernel
theorem dL_law_1709 : decode cL_law 1709 = .ok (.laload, 1) := by decide +kernel
theorem dL_law_1710 : decode cL_law 1710 = .ok (.iload 7, 2) := by decide +kernel
theorem dL_law_1712 : decode cL_law 1712 = .ok (.i2l, 1) := by decide +kernel
theorem dL_law_1713 : decode cL_law 1713 = .ok (.lcmp, 1) := by decide +kernel
theorem dL_law_1714 : decode cL_law 1714 = .ok (.ifCond .eq 5, 3) := by decide +kernel
theorem dL_law_1717 : decode cL_law 1717 = .ok (.iconst 0, 1) := by decide +kernel
theorem dL_law_1718 : decode cL_law 1718 = .ok (.ireturn, 1) := by decide +kernel
theorem dL_law_1719 : decode cL_law 1719 = .ok (.goto 905, 3) := by decide +kernel
theorem dL_law_1722 : decode cL_law 1722 = .ok (.aload_n 1, 1) := by decide +kernel
theorem dL_law_1723 : decode cL_law 1723 = .ok (.aload_n 0, 1) := by decide +kernel
theorem dL_law_1724 : decode cL_law 1724 = .ok (.iload 5, 2) := by decide +kernel
theorem dL_law_1726 : decode cL_law 1726 = .ok (.iconst 1, 1) := by decide +kernel
theorem dL_law_1727 : decode cL_law 1727 = .ok (.iadd, 1) := by decide +kernel
theorem dL_law_1728 : decode cL_law 1728 = .ok (.iaload, 1) := by decide +kernel
theorem dL_law_1729 : decode cL_law 1729 = .ok (.aload_n 3, 1) := by decide +kernel
theorem dL_law_1730 : decode cL_law 1730 = .ok (.invokestatic 228, 3) := by decide +kernel
theorem dL_law_1733 : decode cL_law 1733 = .ok (.istore 6, 2) := by decide +kernel
theorem dL_law_1735 : decode cL_law 1735 = .ok (.aload_n 2, 1) := by decide +kernel
theorem dL_law_1736 : decode cL_law 1736 = .ok (.aload_n 0, 1) := by decide +kernel
theorem dL_law_1737 : decode cL_law 1737 = .ok (.iload 5, 2) := by decide +kernel
theorem dL_law_1739 : decode cL_law 1739 = .ok (.iconst 1, 1) := by decide +kernel
theorem dL_law_1740 : decode cL_law 1740 = .ok (.iadd, 1) := by decide +kernel
theorem dL_law_1741 : decode cL_law 1741 = .ok (.iaload, 1) := by decide +kernel
theorem dL_law_1742 : decode cL_law 1742 = .ok (.invokevirtual 230, 3) := by decide +kernel
theorem dL_law_1745 : decode cL_law 1745 = .ok (.istore 7, 2) := by decide +kernel
theorem dL_law_1747 : decode cL_law 1747 = .ok (.aload_n 2, 1) := by decide +kernel
theorem dL_law_1748 : decode cL_law 1748 = .ok (.invokevirtual 152, 3) := by decide +kernel
theorem dL_law_1751 : decode cL_law 1751 = .ok (.iload 6, 2) := by decide +kernel
theorem dL_law_1753 : decode cL_law 1753 = .ok (.if_icmp .eq 5, 3) := by decide +kernel
theorem dL_law_1756 : decode cL_law 1756 = .ok (.iconst 0, 1) := by decide +kernel
theorem dL_law_1757 : decode cL_law 1757 = .ok (.ireturn, 1) := by decide +kernel
theorem dL_law_1758 : decode cL_law 1758 = .ok (.iload 6, 2) := by decide +kernel
theorem dL_law_1760 : decode cL_law 1760 = .ok (.ifCond .ne 22, 3) := by decide +kernel
theorem dL_law_1763 : decode cL_law 1763 = .ok (.aload_n 3, 1) := by decide +kernel
theorem dL_law_1764 : decode cL_law 1764 = .ok (.iconst 0, 1) := by decide +kernel
theorem dL_law_1765 : decode cL_law 1765 = .ok (.laload, 1) := by decide +kernel
theorem dL_law_1766 : decode cL_law 1766 = .ok (.iload 7, 2) := by decide +kernel
theorem dL_law_1768 : decode cL_law 1768 = .ok (.ifCond .eq 7, 3) := by decide +kernel
theorem dL_law_1771 : decode cL_law 1771 = .ok (.lconst 1, 1) := by decide +kernel
theorem dL_law_1772 : decode cL_law 1772 = .ok (.goto 4, 3) := by decide +kernel
theorem dL_law_1775 : decode cL_law 1775 = .ok (.lconst 0, 1) := by decide +kernel
theorem dL_law_1776 : decode cL_law 1776 = .ok (.lcmp, 1) := by decide +kernel
theorem dL_law_1777 : decode cL_law 1777 = .ok (.ifCond .eq 5, 3) := by decide +kernel
theorem dL_law_1780 : decode cL_law 1780 = .ok (.iconst 0, 1) := by decide +kernel
theorem dL_law_1781 : decode cL_law 1781 = .ok (.ireturn, 1) := by decide +kernel
theorem dL_law_1782 : decode cL_law 1782 = .ok (.goto 842, 3) := by decide +kernel
theorem dL_law_1785 : decode cL_law 1785 = .ok (.aload_n 1, 1) := by decide +kernel
theorem dL_law_1786 : decode cL_law 1786 = .ok (.aload_n 0, 1) := by decide +kernel
theorem dL_law_1787 : decode cL_law 1787 = .ok (.iload 5, 2) := by decide +kernel
theorem dL_law_1789 : decode cL_law 1789 = .ok (.iconst 1, 1) := by decide +kernel
theorem dL_law_1790 : decode cL_law 1790 = .ok (.iadd, 1) := by decide +kernel
theorem dL_law_1791 : decode cL_law 1791 = .ok (.iaload, 1) := by decide +kernel
theorem dL_law_1792 : decode cL_law 1792 = .ok (.aload_n 3, 1) := by decide +kernel
theorem dL_law_1793 : decode cL_law 1793 = .ok (.invokestatic 231, 3) := by decide +kernel
theorem dL_law_1796 : decode cL_law 1796 = .ok (.istore 6, 2) := by decide +kernel
theorem dL_law_1798 : decode cL_law 1798 = .ok (.aload_n 2, 1) := by decide +kernel
theorem dL_law_1799 : decode cL_law 1799 = .ok (.aload_n 0, 1) := by decide +kernel
theorem dL_law_1800 : decode cL_law 1800 = .ok (.iload 5, 2) := by decide +kernel
theorem dL_law_1802 : decode cL_law 1802 = .ok (.iconst 1, 1) := by decide +kernel
theorem dL_law_1803 : decode cL_law 1803 = .ok (.iadd, 1) := by decide +kernel
theorem dL_law_1804 : decode cL_law 1804 = .ok (.iaload, 1) := by decide +kernel
theorem dL_law_1805 : decode cL_law 1805 = .ok (.invokevirtual 233, 3) := by decide +kernel
theorem dL_law_1808 : decode cL_law 1808 = .ok (.istore 7, 2) := by decide +kernel
theorem dL_law_1810 : decode cL_law 1810 = .ok (.aload_n 2, 1) := by decide +kernel
theorem dL_law_1811 : decode cL_law 1811 = .ok (.invokevirtual 152, 3) := by decide +kernel
theorem dL_law_1814 : decode cL_law 1814 = .ok (.iload 6, 2) := by decide +kernel
theorem dL_law_1816 : decode cL_law 1816 = .ok (.if_icmp .eq 5, 3) := by decide +kernel
theorem dL_law_1819 : decode cL_law 1819 = .ok (.iconst 0, 1) := by decide +kernel
theorem dL_law_1820 : decode cL_law 1820 = .ok (.ireturn, 1) := by decide +kernel
theorem dL_law_1821 : decode cL_law 1821 = .ok (.iload 6, 2) := by decide +kernel
theorem dL_law_1823 : decode cL_law 1823 = .ok (.ifCond .ne 15, 3) := by decide +kernel
theorem dL_law_1826 : decode cL_law 1826 = .ok (.aload_n 3, 1) := by decide +kernel
theorem dL_law_1827 : decode cL_law 1827 = .ok (.iconst 0, 1) := by decide +kernel
theorem dL_law_1828 : decode cL_law 1828 = .ok (.laload, 1) := by decide +kernel
theorem dL_law_1829 : decode cL_law 1829 = .ok (.iload 7, 2) := by decide +kernel
theorem dL_law_1831 : decode cL_law 1831 = .ok (.i2l, 1) := by decide +kernel
theorem dL_law_1832 : decode cL_law 1832 = .ok (.lcmp, 1) := by decide +kernel
theorem dL_law_1833 : decode cL_law 1833 = .ok (.ifCond .eq 5, 3) := by decide +kernel
theorem dL_law_1836 : decode cL_law 1836 = .ok (.iconst 0, 1) := by decide +kernel
theorem dL_law_1837 : decode cL_law 1837 = .ok (.ireturn, 1) := by decide +kernel
theorem dL_law_1838 : decode cL_law 1838 = .ok (.goto 786, 3) := by decide +kernel
theorem dL_law_1841 : decode cL_law 1841 = .ok (.aload_n 1, 1) := by decide +kernel
theorem dL_law_1842 : decode cL_law 1842 = .ok (.invokevirtual 234, 3) := by decide +kernel
theorem dL_law_1845 : decode cL_law 1845 = .ok (.aload_n 2, 1) := by decide +kernel
theorem dL_law_1846 : decode cL_law 1846 = .ok (.invokevirtual 237, 3) := by decide +kernel
theorem dL_law_1849 : decode cL_law 1849 = .ok (.if_icmp .eq 775, 3) := by decide +kernel
theorem dL_law_1852 : decode cL_law 1852 = .ok (.iconst 0, 1) := by decide +kernel
theorem dL_law_1853 : decode cL_law 1853 = .ok (.ireturn, 1) := by decide +kernel
theorem dL_law_1854 : decode cL_law 1854 = .ok (.aload_n 1, 1) := by decide +kernel
theorem dL_law_1855 : decode cL_law 1855 = .ok (.aload_n 0, 1) := by decide +kernel
theorem dL_law_1856 : decode cL_law 1856 = .ok (.iload 5, 2) := by decide +kernel
theorem dL_law_1858 : decode cL_law 1858 = .ok (.iconst 1, 1) := by decide +kernel
theorem dL_law_1859 : decode cL_law 1859 = .ok (.iadd, 1) := by decide +kernel
theorem dL_law_1860 : decode cL_law 1860 = .ok (.iaload, 1) := by decide +kernel
theorem dL_law_1861 : decode cL_law 1861 = .ok (.aload_n 3, 1) := by decide +kernel
theorem dL_law_1862 : decode cL_law 1862 = .ok (.invokestatic 238, 3) := by decide +kernel
theorem dL_law_1865 : decode cL_law 1865 = .ok (.istore 6, 2) := by decide +kernel
theorem dL_law_1867 : decode cL_law 1867 = .ok (.aload_n 2, 1) := by decide +kernel
theorem dL_law_1868 : decode cL_law 1868 = .ok (.aload_n 0, 1) := by decide +kernel
theorem dL_law_1869 : decode cL_law 1869 = .ok (.iload 5, 2) := by decide +kernel
theorem dL_law_1871 : decode cL_law 1871 = .ok (.iconst 1, 1) := by decide +kernel
theorem dL_law_1872 : decode cL_law 1872 = .ok (.iadd, 1) := by decide +kernel
theorem dL_law_1873 : decode cL_law 1873 = .ok (.iaload, 1) := by decide +kernel
theorem dL_law_1874 : decode cL_law 1874 = .ok (.invokevirtual 240, 3) := by decide +kernel
theorem dL_law_1877 : decode cL_law 1877 = .ok (.istore 7, 2) := by decide +kernel
theorem dL_law_1879 : decode cL_law 1879 = .ok (.aload_n 2, 1) := by decide +kernel
theorem dL_law_1880 : decode cL_law 1880 = .ok (.invokevirtual 152, 3) := by decide +kernel
theorem dL_law_1883 : decode cL_law 1883 = .ok (.iload 6, 2) := by decide +kernel
theorem dL_law_1885 : decode cL_law 1885 = .ok (.if_icmp .eq 5, 3) := by decide +kernel
theorem dL_law_1888 : decode cL_law 1888 = .ok (.iconst 0, 1) := by decide +kernel
theorem dL_law_1889 : decode cL_law 1889 = .ok (.ireturn, 1) := by decide +kernel
theorem dL_law_1890 : decode cL_law 1890 = .ok (.iload 6, 2) := by decide +kernel
theorem dL_law_1892 : decode cL_law 1892 = .ok (.ifCond .ne 15, 3) := by decide +kernel
theorem dL_law_1895 : decode cL_law 1895 = .ok (.aload_n 3, 1) := by decide +kernel
theorem dL_law_1896 : decode cL_law 1896 = .ok (.iconst 0, 1) := by decide +kernel
theorem dL_law_1897 : decode cL_law 1897 = .ok (.laload, 1) := by decide +kernel
theorem dL_law_1898 : decode cL_law 1898 = .ok (.iload 7, 2) := by decide +kernel
theorem dL_law_1900 : decode cL_law 1900 = .ok (.i2l, 1) := by decide +kernel
theorem dL_law_1901 : decode cL_law 1901 = .ok (.lcmp, 1) := by decide +kernel
theorem dL_law_1902 : decode cL_law 1902 = .ok (.ifCond .eq 5, 3) := by decide +kernel
theorem dL_law_1905 : decode cL_law 1905 = .ok (.iconst 0, 1) := by decide +kernel
theorem dL_law_1906 : decode cL_law 1906 = .ok (.ireturn, 1) := by decide +kernel
theorem dL_law_1907 : decode cL_law 1907 = .ok (.goto 717, 3) := by decide +kernel
theorem dL_law_1910 : decode cL_law 1910 = .ok (.aload_n 1, 1) := by decide +kernel
theorem dL_law_1911 : decode cL_law 1911 = .ok (.aload_n 0, 1) := by decide +kernel
theorem dL_law_1912 : decode cL_law 1912 = .ok (.iload 5, 2) := by decide +kernel
theorem dL_law_1914 : decode cL_law 1914 = .ok (.iconst 1, 1) := by decide +kernel
theorem dL_law_1915 : decode cL_law 1915 = .ok (.iadd, 1) := by decide +kernel
theorem dL_law_1916 : decode cL_law 1916 = .ok (.iaload, 1) := by decide +kernel
theorem dL_law_1917 : decode cL_law 1917 = .ok (.aload_n 3, 1) := by decide +kernel
theorem dL_law_1918 : decode cL_law 1918 = .ok (.invokestatic 241, 3) := by decide +kernel
theorem dL_law_1921 : decode cL_law 1921 = .ok (.istore 6, 2) := by decide +kernel
theorem dL_law_1923 : decode cL_law 1923 = .ok (.aload_n 2, 1) := by decide +kernel
theorem dL_law_1924 : decode cL_law 1924 = .ok (.aload_n 0, 1) := by decide +kernel
theorem dL_law_1925 : decode cL_law 1925 = .ok (.iload 5, 2) := by decide +kernel
theorem dL_law_1927 : decode cL_law 1927 = .ok (.iconst 1, 1) := by decide +kernel
theorem dL_law_1928 : decode cL_law 1928 = .ok (.iadd, 1) := by decide +kernel
theorem dL_law_1929 : decode cL_law 1929 = .ok (.iaload, 1) := by decide +kernel
theorem dL_law_1930 : decode cL_law 1930 = .ok (.invokevirtual 243, 3) := by decide +kernel
theorem dL_law_1933 : decode cL_law 1933 = .ok (.istore 7, 2) := by decide +kernel
theorem dL_law_1935 : decode cL_law 1935 = .ok (.aload_n 2, 1) := by decide +kernel
theorem dL_law_1936 : decode cL_law 1936 = .ok (.invokevirtual 152, 3) := by decide +kernel
theorem dL_law_1939 : decode cL_law 1939 = .ok (.iload 6, 2) := by decide +kernel
theorem dL_law_1941 : decode cL_law 1941 = .ok (.if_icmp .eq 5, 3) := by decide +kernel
theorem dL_law_1944 : decode cL_law 1944 = .ok (.iconst 0, 1) := by decide +kernel
theorem dL_law_1945 : decode cL_law 1945 = .ok (.ireturn, 1) := by decide +kernel
theorem dL_law_1946 : decode cL_law 1946 = .ok (.iload 6, 2) := by decide +kernel
theorem dL_law_1948 : decode cL_law 1948 = .ok (.ifCond .ne 22, 3) := by decide +kernel
theorem dL_law_1951 : decode cL_law 1951 = .ok (.aload_n 3, 1) := by decide +kernel
theorem dL_law_1952 : decode cL_law 1952 = .ok (.iconst 0, 1) := by decide +kernel
theorem dL_law_1953 : decode cL_law 1953 = .ok (.laload, 1) := by decide +kernel
theorem dL_law_1954 : decode cL_law 1954 = .ok (.iload 7, 2) := by decide +kernel
theorem dL_law_1956 : decode cL_law 1956 = .ok (.ifCond .eq 7, 3) := by decide +kernel
theorem dL_law_1959 : decode cL_law 1959 = .ok (.lconst 1, 1) := by decide +kernel
theorem dL_law_1960 : decode cL_law 1960 = .ok (.goto 4, 3) := by decide +kernel
theorem dL_law_1963 : decode cL_law 1963 = .ok (.lconst 0, 1) := by decide +kernel
theorem dL_law_1964 : decode cL_law 1964 = .ok (.lcmp, 1) := by decide +kernel
theorem dL_law_1965 : decode cL_law 1965 = .ok (.ifCond .eq 5, 3) := by decide +kernel
theorem dL_law_1968 : decode cL_law 1968 = .ok (.iconst 0, 1) := by decide +kernel
theorem dL_law_1969 : decode cL_law 1969 = .ok (.ireturn, 1) := by decide +kernel
theorem dL_law_1970 : decode cL_law 1970 = .ok (.goto 654, 3) := by decide +kernel
theorem dL_law_1973 : decode cL_law 1973 = .ok (.aload_n 1, 1) := by decide +kernel
theorem dL_law_1974 : decode cL_law 1974 = .ok (.invokevirtual 244, 3) := by decide +kernel
theorem dL_law_1977 : decode cL_law 1977 = .ok (.aload_n 2, 1) := by decide +kernel
theorem dL_law_1978 : decode cL_law 1978 = .ok (.invokevirtual 247, 3) := by decide +kernel
theorem dL_law_1981 : decode cL_law 1981 = .ok (.if_icmp .eq 643, 3) := by decide +kernel
theorem dL_law_1984 : decode cL_law 1984 = .ok (.iconst 0, 1) := by decide +kernel
theorem dL_law_1985 : decode cL_law 1985 = .ok (.ireturn, 1) := by decide +kernel
theorem dL_law_1986 : decode cL_law 1986 = .ok (.aload_n 1, 1) := by decide +kernel
theorem dL_law_1987 : decode cL_law 1987 = .ok (.invokevirtual 248, 3) := by decide +kernel
theorem dL_law_1990 : decode cL_law 1990 = .ok (.aload_n 2, 1) := by decide +kernel
theorem dL_law_1991 : decode cL_law 1991 = .ok (.invokevirtual 251, 3) := by decide +kernel
theorem dL_law_1994 : decode cL_law 1994 = .ok (.if_icmp .eq 630, 3) := by decide +kernel
theorem dL_law_1997 : decode cL_law 1997 = .ok (.iconst 0, 1) := by decide +kernel
theorem dL_law_1998 : decode cL_law 1998 = .ok (.ireturn, 1) := by decide +kernel
theorem dL_law_1999 : decode cL_law 1999 = .ok (.aload_n 1, 1) := by decide +kernel
theorem dL_law_2000 : decode cL_law 2000 = .ok (.invokevirtual 252, 3) := by decide +kernel
theorem dL_law_2003 : decode cL_law 2003 = .ok (.aload_n 2, 1) := by decide +kernel
theorem dL_law_2004 : decode cL_law 2004 = .ok (.invokevirtual 255, 3) := by decide +kernel
theorem dL_law_2007 : decode cL_law 2007 = .ok (.if_icmp .eq 617, 3) := by decide +kernel
theorem dL_law_2010 : decode cL_law 2010 = .ok (.iconst 0, 1) := by decide +kernel
theorem dL_law_2011 : decode cL_law 2011 = .ok (.ireturn, 1) := by decide +kernel
theorem dL_law_2012 : decode cL_law 2012 = .ok (.aload_n 1, 1) := by decide +kernel
theorem dL_law_2013 : decode cL_law 2013 = .ok (.invokevirtual 256, 3) := by decide +kernel
theorem dL_law_2016 : decode cL_law 2016 = .ok (.aload_n 2, 1) := by decide +kernel
theorem dL_law_2017 : decode cL_law 2017 = .ok (.invokevirtual 259, 3) := by decide +kernel
theorem dL_law_2020 : decode cL_law 2020 = .ok (.if_icmp .eq 604, 3) := by decide +kernel
theorem dL_law_2023 : decode cL_law 2023 = .ok (.iconst 0, 1) := by decide +kernel
theorem dL_law_2024 : decode cL_law 2024 = .ok (.ireturn, 1) := by decide +kernel
theorem dL_law_2025 : decode cL_law 2025 = .ok (.aload_n 1, 1) := by decide +kernel
theorem dL_law_2026 : decode cL_law 2026 = .ok (.invokevirtual 260, 3) := by decide +kernel
theorem dL_law_2029 : decode cL_law 2029 = .ok (.aload_n 2, 1) := by decide +kernel
theorem dL_law_2030 : decode cL_law 2030 = .ok (.invokevirtual 263, 3) := by decide +kernel
theorem dL_law_2033 : decode cL_law 2033 = .ok (.if_icmp .eq 591, 3) := by decide +kernel
theorem dL_law_2036 : decode cL_law 2036 = .ok (.iconst 0, 1) := by decide +kernel
theorem dL_law_2037 : decode cL_law 2037 = .ok (.ireturn, 1) := by decide +kernel
theorem dL_law_2038 : decode cL_law 2038 = .ok (.aload_n 1, 1) := by decide +kernel
theorem dL_law_2039 : decode cL_law 2039 = .ok (.invokevirtual 264, 3) := by decide +kernel
theorem dL_law_2042 : decode cL_law 2042 = .ok (.aload_n 2, 1) := by decide +kernel
theorem dL_law_2043 : decode cL_law 2043 = .ok (.invokevirtual 267, 3) := by decide +kernel
theorem dL_law_2046 : decode cL_law 2046 = .ok (.if_icmp .eq 578, 3) := by decide +kernel
theorem dL_law_2049 : decode cL_law 2049 = .ok (.iconst 0, 1) := by decide +kernel
theorem dL_law_2050 : decode cL_law 2050 = .ok (.ireturn, 1) := by decide +kernel
theorem dL_law_2051 : decode cL_law 2051 = .ok (.aload_n 1, 1) := by decide +kernel
theorem dL_law_2052 : decode cL_law 2052 = .ok (.invokevirtual 268, 3) := by decide +kernel
theorem dL_law_2055 : decode cL_law 2055 = .ok (.aload_n 2, 1) := by decide +kernel
theorem dL_law_2056 : decode cL_law 2056 = .ok (.invokevirtual 271, 3) := by decide +kernel
theorem dL_law_2059 : decode cL_law 2059 = .ok (.if_icmp .eq 565, 3) := by decide +kernel
theorem dL_law_2062 : decode cL_law 2062 = .ok (.iconst 0, 1) := by decide +kernel
theorem dL_law_2063 : decode cL_law 2063 = .ok (.ireturn, 1) := by decide +kernel
theorem dL_law_2064 : decode cL_law 2064 = .ok (.aload_n 1, 1) := by decide +kernel
theorem dL_law_2065 : decode cL_law 2065 = .ok (.aload 4, 2) := by decide +kernel
theorem dL_law_2067 : decode cL_law 2067 = .ok (.invokestatic 272, 3) := by decide +kernel
theorem dL_law_2070 : decode cL_law 2070 = .ok (.istore 6, 2) := by decide +kernel
theorem dL_law_2072 : decode cL_law 2072 = .ok (.aload_n 2, 1) := by decide +kernel
theorem dL_law_2073 : decode cL_law 2073 = .ok (.invokevirtual 275, 3) := by decide +kernel
theorem dL_law_2076 : decode cL_law 2076 = .ok (.dstore 7, 2) := by decide +kernel
theorem dL_law_2078 : decode cL_law 2078 = .ok (.aload_n 2, 1) := by decide +kernel
theorem dL_law_2079 : decode cL_law 2079 = .ok (.invokevirtual 152, 3) := by decide +kernel
theorem dL_law_2082 : decode cL_law 2082 = .ok (.iload 6, 2) := by decide +kernel
theorem dL_law_2084 : decode cL_law 2084 = .ok (.if_icmp .eq 5, 3) := by decide +kernel
theorem dL_law_2087 : decode cL_law 2087 = .ok (.iconst 0, 1) := by decide +kernel
theorem dL_law_2088 : decode cL_law 2088 = .ok (.ireturn, 1) := by decide +kernel
theorem dL_law_2089 : decode cL_law 2089 = .ok (.iload 6, 2) := by decide +kernel
theorem dL_law_2091 : decode cL_law 2091 = .ok (.ifCond .ne 35, 3) := by decide +kernel
theorem dL_law_2094 : decode cL_law 2094 = .ok (.aload 4, 2) := by decide +kernel
theorem dL_law_2096 : decode cL_law 2096 = .ok (.iconst 0, 1) := by decide +kernel
theorem dL_law_2097 : decode cL_law 2097 = .ok (.daload, 1) := by decide +kernel
theorem dL_law_2098 : decode cL_law 2098 = .ok (.dload 7, 2) := by decide +kernel
theorem dL_law_2100 : decode cL_law 2100 = .ok (.dcmp .l, 1) := by decide +kernel
theorem dL_law_2101 : decode cL_law 2101 = .ok (.ifCond .eq 25, 3) := by decide +kernel
theorem dL_law_2104 : decode cL_law 2104 = .ok (.aload 4, 2) := by decide +kernel
theorem dL_law_2106 : decode cL_law 2106 = .ok (.iconst 0, 1) := by decide +kernel
theorem dL_law_2107 : decode cL_law 2107 = .ok (.daload, 1) := by decide +kernel
theorem dL_law_2108 : decode cL_law 2108 = .ok (.aload 4, 2) := by decide +kernel
theorem dL_law_2110 : decode cL_law 2110 = .ok (.iconst 0, 1) := by decide +kernel
theorem dL_law_2111 : decode cL_law 2111 = .ok (.daload, 1) := by decide +kernel
theorem dL_law_2112 : decode cL_law 2112 = .ok (.dcmp .l, 1) := by decide +kernel
theorem dL_law_2113 : decode cL_law 2113 = .ok (.ifCond .eq 11, 3) := by decide +kernel
theorem dL_law_2116 : decode cL_law 2116 = .ok (.dload 7, 2) := by decide +kernel
theorem dL_law_2118 : decode cL_law 2118 = .ok (.dload 7, 2) := by decide +kernel
theorem dL_law_2120 : decode cL_law 2120 = .ok (.dcmp .l, 1) := by decide +kernel
theorem dL_law_2121 : decode cL_law 2121 = .ok (.ifCond .ne 5, 3) := by decide +kernel
theorem dL_law_2124 : decode cL_law 2124 = .ok (.iconst 0, 1) := by decide +kernel
theorem dL_law_2125 : decode cL_law 2125 = .ok (.ireturn, 1) := by decide +kernel
theorem dL_law_2126 : decode cL_law 2126 = .ok (.goto 498, 3) := by decide +kernel
theorem dL_law_2129 : decode cL_law 2129 = .ok (.aload_n 1, 1) := by decide +kernel
theorem dL_law_2130 : decode cL_law 2130 = .ok (.aload 4, 2) := by decide +kernel
theorem dL_law_2132 : decode cL_law 2132 = .ok (.invokestatic 276, 3) := by decide +kernel
theorem dL_law_2135 : decode cL_law 2135 = .ok (.istore 6, 2) := by decide +kernel
theorem dL_law_2137 : decode cL_law 2137 = .ok (.aload_n 2, 1) := by decide +kernel
theorem dL_law_2138 : decode cL_law 2138 = .ok (.invokevirtual 278, 3) := by decide +kernel
theorem dL_law_2141 : decode cL_law 2141 = .ok (.fstore 7, 2) := by decide +kernel
theorem dL_law_2143 : decode cL_law 2143 = .ok (.aload_n 2, 1) := by decide +kernel
theorem dL_law_2144 : decode cL_law 2144 = .ok (.invokevirtual 152, 3) := by decide +kernel
theorem dL_law_2147 : decode cL_law 2147 = .ok (.iload 6, 2) := by decide +kernel
theorem dL_law_2149 : decode cL_law 2149 = .ok (.if_icmp .eq 5, 3) := by decide +kernel
theorem dL_law_2152 : decode cL_law 2152 = .ok (.iconst 0, 1) := by decide +kernel
theorem dL_law_2153 : decode cL_law 2153 = .ok (.ireturn, 1) := by decide +kernel
theorem dL_law_2154 : decode cL_law 2154 = .ok (.iload 6, 2) := by decide +kernel
theorem dL_law_2156 : decode cL_law 2156 = .ok (.ifCond .ne 36, 3) := by decide +kernel
theorem dL_law_2159 : decode cL_law 2159 = .ok (.aload 4, 2) := by decide +kernel
theorem dL_law_2161 : decode cL_law 2161 = .ok (.iconst 0, 1) := by decide +kernel
theorem dL_law_2162 : decode cL_law 2162 = .ok (.daload, 1) := by decide +kernel
theorem dL_law_2163 : decode cL_law 2163 = .ok (.fload 7, 2) := by decide +kernel
theorem dL_law_2165 : decode cL_law 2165 = .ok (.f2d, 1) := by decide +kernel
theorem dL_law_2166 : decode cL_law 2166 = .ok (.dcmp .l, 1) := by decide +kernel
theorem dL_law_2167 : decode cL_law 2167 = .ok (.ifCond .eq 25, 3) := by decide +kernel
theorem dL_law_2170 : decode cL_law 2170 = .ok (.aload 4, 2) := by decide +kernel
theorem dL_law_2172 : decode cL_law 2172 = .ok (.iconst 0, 1) := by decide +kernel
theorem dL_law_2173 : decode cL_law 2173 = .ok (.daload, 1) := by decide +kernel
theorem dL_law_2174 : decode cL_law 2174 = .ok (.aload 4, 2) := by decide +kernel
theorem dL_law_2176 : decode cL_law 2176 = .ok (.iconst 0, 1) := by decide +kernel
theorem dL_law_2177 : decode cL_law 2177 = .ok (.daload, 1) := by decide +kernel
theorem dL_law_2178 : decode cL_law 2178 = .ok (.dcmp .l, 1) := by decide +kernel
theorem dL_law_2179 : decode cL_law 2179 = .ok (.ifCond .eq 11, 3) := by decide +kernel
theorem dL_law_2182 : decode cL_law 2182 = .ok (.fload 7, 2) := by decide +kernel
theorem dL_law_2184 : decode cL_law 2184 = .ok (.fload 7, 2) := by decide +kernel
theorem dL_law_2186 : decode cL_law 2186 = .ok (.fcmp .l, 1) := by decide +kernel
theorem dL_law_2187 : decode cL_law 2187 = .ok (.ifCond .ne 5, 3) := by decide +kernel
theorem dL_law_2190 : decode cL_law 2190 = .ok (.iconst 0, 1) := by decide +kernel
theorem dL_law_2191 : decode cL_law 2191 = .ok (.ireturn, 1) := by decide +kernel
theorem dL_law_2192 : decode cL_law 2192 = .ok (.goto 432, 3) := by decide +kernel
theorem dL_law_2195 : decode cL_law 2195 = .ok (.aload_n 1, 1) := by decide +kernel
theorem dL_law_2196 : decode cL_law 2196 = .ok (.invokevirtual 279, 3) := by decide +kernel
theorem dL_law_2199 : decode cL_law 2199 = .ok (.aload_n 2, 1) := by decide +kernel
theorem dL_law_2200 : decode cL_law 2200 = .ok (.invokevirtual 283, 3) := by decide +kernel
theorem dL_law_2203 : decode cL_law 2203 = .ok (.if_icmp .eq 421, 3) := by decide +kernel
theorem dL_law_2206 : decode cL_law 2206 = .ok (.iconst 0, 1) := by decide +kernel
theorem dL_law_2207 : decode cL_law 2207 = .ok (.ireturn, 1) := by decide +kernel
theorem dL_law_2208 : decode cL_law 2208 = .ok (.aload_n 1, 1) := by decide +kernel
theorem dL_law_2209 : decode cL_law 2209 = .ok (.aload_n 0, 1) := by decide +kernel
theorem dL_law_2210 : decode cL_law 2210 = .ok (.iload 5, 2) := by decide +kernel
theorem dL_law_2212 : decode cL_law 2212 = .ok (.iconst 1, 1) := by decide +kernel
theorem dL_law_2213 : decode cL_law 2213 = .ok (.iadd, 1) := by decide +kernel
theorem dL_law_2214 : decode cL_law 2214 = .ok (.iaload, 1) := by decide +kernel
theorem dL_law_2215 : decode cL_law 2215 = .ok (.aload_n 3, 1) := by decide +kernel
theorem dL_law_2216 : decode cL_law 2216 = .ok (.invokestatic 284, 3) := by decide +kernel
theorem dL_law_2219 : decode cL_law 2219 = .ok (.istore 6, 2) := by decide +kernel
theorem dL_law_2221 : decode cL_law 2221 = .ok (.aload_n 2, 1) := by decide +kernel
theorem dL_law_2222 : decode cL_law 2222 = .ok (.aload_n 0, 1) := by decide +kernel
theorem dL_law_2223 : decode cL_law 2223 = .ok (.iload 5, 2) := by decide +kernel
theorem dL_law_2225 : decode cL_law 2225 = .ok (.iconst 1, 1) := by decide +kernel
theorem dL_law_2226 : decode cL_law 2226 = .ok (.iadd, 1) := by decide +kernel
theorem dL_law_2227 : decode cL_law 2227 = .ok (.iaload, 1) := by decide +kernel
theorem dL_law_2228 : decode cL_law 2228 = .ok (.invokevirtual 286, 3) := by decide +kernel
theorem dL_law_2231 : decode cL_law 2231 = .ok (.istore 7, 2) := by decide +kernel
theorem dL_law_2233 : decode cL_law 2233 = .ok (.aload_n 2, 1) := by decide +kernel
theorem dL_law_2234 : decode cL_law 2234 = .ok (.invokevirtual 152, 3) := by decide +kernel
theorem dL_law_2237 : decode cL_law 2237 = .ok (.iload 6, 2) := by decide +kernel
theorem dL_law_2239 : decode cL_law 2239 = .ok (.if_icmp .eq 5, 3) := by decide +kernel
theorem dL_law_2242 : decode cL_law 2242 = .ok (.iconst 0, 1) := by decide +kernel
theorem dL_law_2243 : decode cL_law 2243 = .ok (.ireturn, 1) := by decide +kernel
theorem dL_law_2244 : decode cL_law 2244 = .ok (.iload 6, 2) := by decide +kernel
theorem dL_law_2246 : decode cL_law 2246 = .ok (.ifCond .ne 15, 3) := by decide +kernel
theorem dL_law_2249 : decode cL_law 2249 = .ok (.aload_n 3, 1) := by decide +kernel
theorem dL_law_2250 : decode cL_law 2250 = .ok (.iconst 0, 1) := by decide +kernel
theorem dL_law_2251 : decode cL_law 2251 = .ok (.laload, 1) := by decide +kernel
theorem dL_law_2252 : decode cL_law 2252 = .ok (.iload 7, 2) := by decide +kernel
theorem dL_law_2254 : decode cL_law 2254 = .ok (.i2l, 1) := by decide +kernel
theorem dL_law_2255 : decode cL_law 2255 = .ok (.lcmp, 1) := by decide +kernel
theorem dL_law_2256 : decode cL_law 2256 = .ok (.ifCond .eq 5, 3) := by decide +kernel
theorem dL_law_2259 : decode cL_law 2259 = .ok (.iconst 0, 1) := by decide +kernel
theorem dL_law_2260 : decode cL_law 2260 = .ok (.ireturn, 1) := by decide +kernel
theorem dL_law_2261 : decode cL_law 2261 = .ok (.goto 363, 3) := by decide +kernel
theorem dL_law_2264 : decode cL_law 2264 = .ok (.aload_n 1, 1) := by decide +kernel
theorem dL_law_2265 : decode cL_law 2265 = .ok (.invokevirtual 287, 3) := by decide +kernel
theorem dL_law_2268 : decode cL_law 2268 = .ok (.aload_n 2, 1) := by decide +kernel
theorem dL_law_2269 : decode cL_law 2269 = .ok (.invokevirtual 290, 3) := by decide +kernel
theorem dL_law_2272 : decode cL_law 2272 = .ok (.if_icmp .eq 352, 3) := by decide +kernel
theorem dL_law_2275 : decode cL_law 2275 = .ok (.iconst 0, 1) := by decide +kernel
theorem dL_law_2276 : decode cL_law 2276 = .ok (.ireturn, 1) := by decide +kernel
theorem dL_law_2277 : decode cL_law 2277 = .ok (.aload_n 1, 1) := by decide +kernel
theorem dL_law_2278 : decode cL_law 2278 = .ok (.aload_n 0, 1) := by decide +kernel
theorem dL_law_2279 : decode cL_law 2279 = .ok (.iload 5, 2) := by decide +kernel
theorem dL_law_2281 : decode cL_law 2281 = .ok (.iconst 1, 1) := by decide +kernel
theorem dL_law_2282 : decode cL_law 2282 = .ok (.iadd, 1) := by decide +kernel
theorem dL_law_2283 : decode cL_law 2283 = .ok (.iaload, 1) := by decide +kernel
theorem dL_law_2284 : decode cL_law 2284 = .ok (.aload_n 3, 1) := by decide +kernel
theorem dL_law_2285 : decode cL_law 2285 = .ok (.invokestatic 291, 3) := by decide +kernel
theorem dL_law_2288 : decode cL_law 2288 = .ok (.istore 6, 2) := by decide +kernel
theorem dL_law_2290 : decode cL_law 2290 = .ok (.aload_n 2, 1) := by decide +kernel
theorem dL_law_2291 : decode cL_law 2291 = .ok (.aload_n 0, 1) := by decide +kernel
theorem dL_law_2292 : decode cL_law 2292 = .ok (.iload 5, 2) := by decide +kernel
theorem dL_law_2294 : decode cL_law 2294 = .ok (.iconst 1, 1) := by decide +kernel
theorem dL_law_2295 : decode cL_law 2295 = .ok (.iadd, 1) := by decide +kernel
theorem dL_law_2296 : decode cL_law 2296 = .ok (.iaload, 1) := by decide +kernel
theorem dL_law_2297 : decode cL_law 2297 = .ok (.invokevirtual 293, 3) := by decide +kernel
theorem dL_law_2300 : decode cL_law 2300 = .ok (.istore 7, 2) := by decide +kernel
theorem dL_law_2302 : decode cL_law 2302 = .ok (.aload_n 2, 1) := by decide +kernel
theorem dL_law_2303 : decode cL_law 2303 = .ok (.invokevirtual 152, 3) := by decide +kernel
theorem dL_law_2306 : decode cL_law 2306 = .ok (.iload 6, 2) := by decide +kernel
theorem dL_law_2308 : decode cL_law 2308 = .ok (.if_icmp .eq 5, 3) := by decide +kernel
theorem dL_law_2311 : decode cL_law 2311 = .ok (.iconst 0, 1) := by decide +kernel
theorem dL_law_2312 : decode cL_law 2312 = .ok (.ireturn, 1) := by decide +kernel
theorem dL_law_2313 : decode cL_law 2313 = .ok (.iload 6, 2) := by decide +kernel
theorem dL_law_2315 : decode cL_law 2315 = .ok (.ifCond .ne 15, 3) := by decide +kernel
theorem dL_law_2318 : decode cL_law 2318 = .ok (.aload_n 3, 1) := by decide +kernel
theorem dL_law_2319 : decode cL_law 2319 = .ok (.iconst 0, 1) := by decide +kernel
theorem dL_law_2320 : decode cL_law 2320 = .ok (.laload, 1) := by decide +kernel
theorem dL_law_2321 : decode cL_law 2321 = .ok (.iload 7, 2) := by decide +kernel
theorem dL_law_2323 : decode cL_law 2323 = .ok (.i2l, 1) := by decide +kernel
theorem dL_law_2324 : decode cL_law 2324 = .ok (.lcmp, 1) := by decide +kernel
theorem dL_law_2325 : decode cL_law 2325 = .ok (.ifCond .eq 5, 3) := by decide +kernel
theorem dL_law_2328 : decode cL_law 2328 = .ok (.iconst 0, 1) := by decide +kernel
theorem dL_law_2329 : decode cL_law 2329 = .ok (.ireturn, 1) := by decide +kernel
theorem dL_law_2330 : decode cL_law 2330 = .ok (.goto 294, 3) := by decide +kernel
theorem dL_law_2333 : decode cL_law 2333 = .ok (.aload_n 1, 1) := by decide +kernel
theorem dL_law_2334 : decode cL_law 2334 = .ok (.aload_n 0, 1) := by decide +kernel
theorem dL_law_2335 : decode cL_law 2335 = .ok (.iload 5, 2) := by decide +kernel
theorem dL_law_2337 : decode cL_law 2337 = .ok (.iconst 1, 1) := by decide +kernel
theorem dL_law_2338 : decode cL_law 2338 = .ok (.iadd, 1) := by decide +kernel
theorem dL_law_2339 : decode cL_law 2339 = .ok (.iaload, 1) := by decide +kernel
theorem dL_law_2340 : decode cL_law 2340 = .ok (.i2c, 1) := by decide +kernel
theorem dL_law_2341 : decode cL_law 2341 = .ok (.aload_n 3, 1) := by decide +kernel
theorem dL_law_2342 : decode cL_law 2342 = .ok (.invokestatic 294, 3) := by decide +kernel
theorem dL_law_2345 : decode cL_law 2345 = .ok (.istore 6, 2) := by decide +kernel
theorem dL_law_2347 : decode cL_law 2347 = .ok (.aload_n 2, 1) := by decide +kernel
theorem dL_law_2348 : decode cL_law 2348 = .ok (.aload_n 0, 1) := by decide +kernel
theorem dL_law_2349 : decode cL_law 2349 = .ok (.iload 5, 2) := by decide +kernel
theorem dL_law_2351 : decode cL_law 2351 = .ok (.iconst 1, 1) := by decide +kernel
theorem dL_law_2352 : decode cL_law 2352 = .ok (.iadd, 1) := by decide +kernel
theorem dL_law_2353 : decode cL_law 2353 = .ok (.iaload, 1) := by decide +kernel
theorem dL_law_2354 : decode cL_law 2354 = .ok (.i2c, 1) := by decide +kernel
theorem dL_law_2355 : decode cL_law 2355 = .ok (.invokevirtual 297, 3) := by decide +kernel
theorem dL_law_2358 : decode cL_law 2358 = .ok (.istore 7, 2) := by decide +kernel
theorem dL_law_2360 : decode cL_law 2360 = .ok (.aload_n 2, 1) := by decide +kernel
theorem dL_law_2361 : decode cL_law 2361 = .ok (.invokevirtual 152, 3) := by decide +kernel
theorem dL_law_2364 : decode cL_law 2364 = .ok (.iload 6, 2) := by decide +kernel
theorem dL_law_2366 : decode cL_law 2366 = .ok (.if_icmp .eq 5, 3) := by decide +kernel
theorem dL_law_2369 : decode cL_law 2369 = .ok (.iconst 0, 1) := by decide +kernel
theorem dL_law_2370 : decode cL_law 2370 = .ok (.ireturn, 1) := by decide +kernel
theorem dL_law_2371 : decode cL_law 2371 = .ok (.iload 6, 2) := by decide +kernel
theorem dL_law_2373 : decode cL_law 2373 = .ok (.ifCond .ne 15, 3) := by decide +kernel
theorem dL_law_2376 : decode cL_law 2376 = .ok (.aload_n 3, 1) := by decide +kernel
theorem dL_law_2377 : decode cL_law 2377 = .ok (.iconst 0, 1) := by decide +kernel
theorem dL_law_2378 : decode cL_law 2378 = .ok (.laload, 1) := by decide +kernel
theorem dL_law_2379 : decode cL_law 2379 = .ok (.iload 7, 2) := by decide +kernel
theorem dL_law_2381 : decode cL_law 2381 = .ok (.i2l, 1) := by decide +kernel
theorem dL_law_2382 : decode cL_law 2382 = .ok (.lcmp, 1) := by decide +kernel
theorem dL_law_2383 : decode cL_law 2383 = .ok (.ifCond .eq 5, 3) := by decide +kernel
theorem dL_law_2386 : decode cL_law 2386 = .ok (.iconst 0, 1) := by decide +kernel
theorem dL_law_2387 : decode cL_law 2387 = .ok (.ireturn, 1) := by decide +kernel
theorem dL_law_2388 : decode cL_law 2388 = .ok (.goto 236, 3) := by decide +kernel
theorem dL_law_2391 : decode cL_law 2391 = .ok (.aload_n 1, 1) := by decide +kernel
theorem dL_law_2392 : decode cL_law 2392 = .ok (.aload_n 3, 1) := by decide +kernel
theorem dL_law_2393 : decode cL_law 2393 = .ok (.invokestatic 298, 3) := by decide +kernel
theorem dL_law_2396 : decode cL_law 2396 = .ok (.istore 6, 2) := by decide +kernel
theorem dL_law_2398 : decode cL_law 2398 = .ok (.aload_n 2, 1) := by decide +kernel
theorem dL_law_2399 : decode cL_law 2399 = .ok (.invokevirtual 301, 3) := by decide +kernel
theorem dL_law_2402 : decode cL_law 2402 = .ok (.istore 7, 2) := by decide +kernel
theorem dL_law_2404 : decode cL_law 2404 = .ok (.aload_n 2, 1) := by decide +kernel
theorem dL_law_2405 : decode cL_law 2405 = .ok (.invokevirtual 152, 3) := by decide +kernel
theorem dL_law_2408 : decode cL_law 2408 = .ok (.iload 6, 2) := by decide +kernel
theorem dL_law_2410 : decode cL_law 2410 = .ok (.if_icmp .eq 5, 3) := by decide +kernel
theorem dL_law_2413 : decode cL_law 2413 = .ok (.iconst 0, 1) := by decide +kernel
theorem dL_law_2414 : decode cL_law 2414 = .ok (.ireturn, 1) := by decide +kernel
theorem dL_law_2415 : decode cL_law 2415 = .ok (.iload 6, 2) := by decide +kernel
theorem dL_law_2417 : decode cL_law 2417 = .ok (.ifCond .ne 15, 3) := by decide +kernel
theorem dL_law_2420 : decode cL_law 2420 = .ok (.aload_n 3, 1) := by decide +kernel
theorem dL_law_2421 : decode cL_law 2421 = .ok (.iconst 0, 1) := by decide +kernel
theorem dL_law_2422 : decode cL_law 2422 = .ok (.laload, 1) := by decide +kernel
theorem dL_law_2423 : decode cL_law 2423 = .ok (.iload 7, 2) := by decide +kernel
theorem dL_law_2425 : decode cL_law 2425 = .ok (.i2l, 1) := by decide +kernel
theorem dL_law_2426 : decode cL_law 2426 = .ok (.lcmp, 1) := by decide +kernel
theorem dL_law_2427 : decode cL_law 2427 = .ok (.ifCond .eq 5, 3) := by decide +kernel
theorem dL_law_2430 : decode cL_law 2430 = .ok (.iconst 0, 1) := by decide +kernel
theorem dL_law_2431 : decode cL_law 2431 = .ok (.ireturn, 1) := by decide +kernel
theorem dL_law_2432 : decode cL_law 2432 = .ok (.goto 192, 3) := by decide +kernel
theorem dL_law_2435 : decode cL_law 2435 = .ok (.aload_n 1, 1) := by decide +kernel
theorem dL_law_2436 : decode cL_law 2436 = .ok (.aload_n 3, 1) := by decide +kernel
theorem dL_law_2437 : decode cL_law 2437 = .ok (.invokestatic 302, 3) := by decide +kernel
theorem dL_law_2440 : decode cL_law 2440 = .ok (.istore 6, 2) := by decide +kernel
theorem dL_law_2442 : decode cL_law 2442 = .ok (.aload_n 2, 1) := by decide +kernel
theorem dL_law_2443 : decode cL_law 2443 = .ok (.invokevirtual 304, 3) := by decide +kernel
theorem dL_law_2446 : decode cL_law 2446 = .ok (.istore 7, 2) := by decide +kernel
theorem dL_law_2448 : decode cL_law 2448 = .ok (.aload_n 2, 1) := by decide +kernel
theorem dL_law_2449 : decode cL_law 2449 = .ok (.invokevirtual 152, 3) := by decide +kernel
theorem dL_law_2452 : decode cL_law 2452 = .ok (.iload 6, 2) := by decide +kernel
theorem dL_law_2454 : decode cL_law 2454 = .ok (.if_icmp .eq 5, 3) := by decide +kernel
theorem dL_law_2457 : decode cL_law 2457 = .ok (.iconst 0, 1) := by decide +kernel
theorem dL_law_2458 : decode cL_law 2458 = .ok (.ireturn, 1) := by decide +kernel
theorem dL_law_2459 : decode cL_law 2459 = .ok (.iload 6, 2) := by decide +kernel
theorem dL_law_2461 : decode cL_law 2461 = .ok (.ifCond .ne 15, 3) := by decide +kernel
theorem dL_law_2464 : decode cL_law 2464 = .ok (.aload_n 3, 1) := by decide +kernel
theorem dL_law_2465 : decode cL_law 2465 = .ok (.iconst 0, 1) := by decide +kernel
theorem dL_law_2466 : decode cL_law 2466 = .ok (.laload, 1) := by decide +kernel
theorem dL_law_2467 : decode cL_law 2467 = .ok (.iload 7, 2) := by decide +kernel
theorem dL_law_2469 : decode cL_law 2469 = .ok (.i2l, 1) := by decide +kernel
theorem dL_law_2470 : decode cL_law 2470 = .ok (.lcmp, 1) := by decide +kernel
theorem dL_law_2471 : decode cL_law 2471 = .ok (.ifCond .eq 5, 3) := by decide +kernel
theorem dL_law_2474 : decode cL_law 2474 = .ok (.iconst 0, 1) := by decide +kernel
theorem dL_law_2475 : decode cL_law 2475 = .ok (.ireturn, 1) := by decide +kernel
theorem dL_law_2476 : decode cL_law 2476 = .ok (.goto 148, 3) := by decide +kernel
theorem dL_law_2479 : decode cL_law 2479 = .ok (.aload_n 1, 1) := by decide +kernel
theorem dL_law_2480 : decode cL_law 2480 = .ok (.aload_n 3, 1) := by decide +kernel
theorem dL_law_2481 : decode cL_law 2481 = .ok (.invokestatic 305, 3) := by decide +kernel
theorem dL_law_2484 : decode cL_law 2484 = .ok (.istore 6, 2) := by decide +kernel
theorem dL_law_2486 : decode cL_law 2486 = .ok (.aload_n 2, 1) := by decide +kernel
theorem dL_law_2487 : decode cL_law 2487 = .ok (.invokevirtual 307, 3) := by decide +kernel
theorem dL_law_2490 : decode cL_law 2490 = .ok (.istore 7, 2) := by decide +kernel
theorem dL_law_2492 : decode cL_law 2492 = .ok (.aload_n 2, 1) := by decide +kernel
theorem dL_law_2493 : decode cL_law 2493 = .ok (.invokevirtual 152, 3) := by decide +kernel
theorem dL_law_2496 : decode cL_law 2496 = .ok (.iload 6, 2) := by decide +kernel
theorem dL_law_2498 : decode cL_law 2498 = .ok (.if_icmp .eq 5, 3) := by decide +kernel
theorem dL_law_2501 : decode cL_law 2501 = .ok (.iconst 0, 1) := by decide +kernel
theorem dL_law_2502 : decode cL_law 2502 = .ok (.ireturn, 1) := by decide +kernel
theorem dL_law_2503 : decode cL_law 2503 = .ok (.iload 6, 2) := by decide +kernel
theorem dL_law_2505 : decode cL_law 2505 = .ok (.ifCond .ne 15, 3) := by decide +kernel
theorem dL_law_2508 : decode cL_law 2508 = .ok (.aload_n 3, 1) := by decide +kernel
theorem dL_law_2509 : decode cL_law 2509 = .ok (.iconst 0, 1) := by decide +kernel
theorem dL_law_2510 : decode cL_law 2510 = .ok (.laload, 1) := by decide +kernel
theorem dL_law_2511 : decode cL_law 2511 = .ok (.iload 7, 2) := by decide +kernel
theorem dL_law_2513 : decode cL_law 2513 = .ok (.i2l, 1) := by decide +kernel
theorem dL_law_2514 : decode cL_law 2514 = .ok (.lcmp, 1) := by decide +kernel
theorem dL_law_2515 : decode cL_law 2515 = .ok (.ifCond .eq 5, 3) := by decide +kernel
theorem dL_law_2518 : decode cL_law 2518 = .ok (.iconst 0, 1) := by decide +kernel
theorem dL_law_2519 : decode cL_law 2519 = .ok (.ireturn, 1) := by decide +kernel
theorem dL_law_2520 : decode cL_law 2520 = .ok (.goto 104, 3) := by decide +kernel
theorem dL_law_2523 : decode cL_law 2523 = .ok (.aload_n 1, 1) := by decide +kernel
theorem dL_law_2524 : decode cL_law 2524 = .ok (.aload_n 3, 1) := by decide +kernel
theorem dL_law_2525 : decode cL_law 2525 = .ok (.invokestatic 308, 3) := by decide +kernel
theorem dL_law_2528 : decode cL_law 2528 = .ok (.istore 6, 2) := by decide +kernel
theorem dL_law_2530 : decode cL_law 2530 = .ok (.aload_n 2, 1) := by decide +kernel
theorem dL_law_2531 : decode cL_law 2531 = .ok (.invokevirtual 310, 3) := by decide +kernel
theorem dL_law_2534 : decode cL_law 2534 = .ok (.istore 7, 2) := by decide +kernel
theorem dL_law_2536 : decode cL_law 2536 = .ok (.aload_n 2, 1) := by decide +kernel
theorem dL_law_2537 : decode cL_law 2537 = .ok (.invokevirtual 152, 3) := by decide +kernel
theorem dL_law_2540 : decode cL_law 2540 = .ok (.iload 6, 2) := by decide +kernel
theorem dL_law_2542 : decode cL_law 2542 = .ok (.if_icmp .eq 5, 3) := by decide +kernel
theorem dL_law_2545 : decode cL_law 2545 = .ok (.iconst 0, 1) := by decide +kernel
theorem dL_law_2546 : decode cL_law 2546 = .ok (.ireturn, 1) := by decide +kernel
theorem dL_law_2547 : decode cL_law 2547 = .ok (.iload 6, 2) := by decide +kernel
theorem dL_law_2549 : decode cL_law 2549 = .ok (.ifCond .ne 15, 3) := by decide +kernel
theorem dL_law_2552 : decode cL_law 2552 = .ok (.aload_n 3, 1) := by decide +kernel
theorem dL_law_2553 : decode cL_law 2553 = .ok (.iconst 0, 1) := by decide +kernel
theorem dL_law_2554 : decode cL_law 2554 = .ok (.laload, 1) := by decide +kernel
theorem dL_law_2555 : decode cL_law 2555 = .ok (.iload 7, 2) := by decide +kernel
theorem dL_law_2557 : decode cL_law 2557 = .ok (.i2l, 1) := by decide +kernel
theorem dL_law_2558 : decode cL_law 2558 = .ok (.lcmp, 1) := by decide +kernel
theorem dL_law_2559 : decode cL_law 2559 = .ok (.ifCond .eq 5, 3) := by decide +kernel
theorem dL_law_2562 : decode cL_law 2562 = .ok (.iconst 0, 1) := by decide +kernel
theorem dL_law_2563 : decode cL_law 2563 = .ok (.ireturn, 1) := by decide +kernel
theorem dL_law_2564 : decode cL_law 2564 = .ok (.goto 60, 3) := by decide +kernel
theorem dL_law_2567 : decode cL_law 2567 = .ok (.aload_n 1, 1) := by decide +kernel
theorem dL_law_2568 : decode cL_law 2568 = .ok (.invokevirtual 311, 3) := by decide +kernel
theorem dL_law_2571 : decode cL_law 2571 = .ok (.aload_n 2, 1) := by decide +kernel
theorem dL_law_2572 : decode cL_law 2572 = .ok (.invokevirtual 314, 3) := by decide +kernel
theorem dL_law_2575 : decode cL_law 2575 = .ok (.if_icmp .eq 49, 3) := by decide +kernel
theorem dL_law_2578 : decode cL_law 2578 = .ok (.iconst 0, 1) := by decide +kernel
theorem dL_law_2579 : decode cL_law 2579 = .ok (.ireturn, 1) := by decide +kernel
theorem dL_law_2580 : decode cL_law 2580 = .ok (.aload_n 1, 1) := by decide +kernel
theorem dL_law_2581 : decode cL_law 2581 = .ok (.aload_n 3, 1) := by decide +kernel
theorem dL_law_2582 : decode cL_law 2582 = .ok (.invokestatic 315, 3) := by decide +kernel
theorem dL_law_2585 : decode cL_law 2585 = .ok (.istore 6, 2) := by decide +kernel
theorem dL_law_2587 : decode cL_law 2587 = .ok (.aload_n 2, 1) := by decide +kernel
theorem dL_law_2588 : decode cL_law 2588 = .ok (.invokevirtual 317, 3) := by decide +kernel
theorem dL_law_2591 : decode cL_law 2591 = .ok (.istore 7, 2) := by decide +kernel
theorem dL_law_2593 : decode cL_law 2593 = .ok (.aload_n 2, 1) := by decide +kernel
theorem dL_law_2594 : decode cL_law 2594 = .ok (.invokevirtual 152, 3) := by decide +kernel
theorem dL_law_2597 : decode cL_law 2597 = .ok (.iload 6, 2) := by decide +kernel
theorem dL_law_2599 : decode cL_law 2599 = .ok (.if_icmp .eq 5, 3) := by decide +kernel
theorem dL_law_2602 : decode cL_law 2602 = .ok (.iconst 0, 1) := by decide +kernel
theorem dL_law_2603 : decode cL_law 2603 = .ok (.ireturn, 1) := by decide +kernel
theorem dL_law_2604 : decode cL_law 2604 = .ok (.iload 6, 2) := by decide +kernel
theorem dL_law_2606 : decode cL_law 2606 = .ok (.ifCond .ne 15, 3) := by decide +kernel
theorem dL_law_2609 : decode cL_law 2609 = .ok (.aload_n 3, 1) := by decide +kernel
theorem dL_law_2610 : decode cL_law 2610 = .ok (.iconst 0, 1) := by decide +kernel
theorem dL_law_2611 : decode cL_law 2611 = .ok (.laload, 1) := by decide +kernel
theorem dL_law_2612 : decode cL_law 2612 = .ok (.iload 7, 2) := by decide +kernel
theorem dL_law_2614 : decode cL_law 2614 = .ok (.i2l, 1) := by decide +kernel
theorem dL_law_2615 : decode cL_law 2615 = .ok (.lcmp, 1) := by decide +kernel
theorem dL_law_2616 : decode cL_law 2616 = .ok (.ifCond .eq 5, 3) := by decide +kernel
theorem dL_law_2619 : decode cL_law 2619 = .ok (.iconst 0, 1) := by decide +kernel
theorem dL_law_2620 : decode cL_law 2620 = .ok (.ireturn, 1) := by decide +kernel
theorem dL_law_2621 : decode cL_law 2621 = .ok (.goto 3, 3) := by decide +kernel
theorem dL_law_2624 : decode cL_law 2624 = .ok (.iinc 5 5, 3) := by decide +kernel
theorem dL_law_2627 : decode cL_law 2627 = .ok (.goto (-2599), 3) := by decide +kernel
theorem dL_law_2630 : decode cL_law 2630 = .ok (.iconst 1, 1) := by decide +kernel
theorem dL_law_2631 : decode cL_law 2631 = .ok (.ireturn, 1) := by decide +kernel
abbrev vwCl : List vw_C := [(RJ0, TJ0, 4), (RJ4, TJ4, 4), (RJx00060, TJx00060, 6), (RJx7c733, TJx7c733, 6), (RX2, TX2, 3), (RX3, TX3, 14), (RX4, TX4, 4), (RX6, TX6, 3), (RX7, TX7, 9), (RX8, TX8, 18)]
