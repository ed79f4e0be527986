def RX0 : String := "Icehighway$Load"
def TX0 : u_T := fun k => match k with
  | 0 => ("Icehighway$Load", "goods", "I", true)
  | 1 => ("Icehighway$Load", "kilos", "I", true)
  | _ => ("Icehighway$Load", "isBack", "Z", false)
def tyX0 : Nat → FieldType := fun k => match k with
  | 0 => .int
  | 1 => .int
  | _ => .boolean
abbrev wsX00 : List Cond := u_ws RX0 TX0 3
theorem nmX0 : ∀ a, a < 3 → ∀ b, b < 3 → a ≠ b → (TX0 a).2.1 ≠ (TX0 b).2.1 := by decide +kernel
theorem tyX0_ok : ∀ k, k < 3 → parseFieldDescriptor (TX0 k).2.2.1 = some (tyX0 k) := by decide +kernel
abbrev cX0_init : ByteArray := prog_2_method_1_code
def yX0_init : MethodName := ⟨RX0, "<init>", "(II)V"⟩
def RX1 : String := "Icehighway$Piece"
def TX1 : u_T := fun k => match k with
  | 0 => ("Icehighway$Piece", "kind", "I", true)
  | 1 => ("Icehighway$Piece", "metres", "I", true)
  | 2 => ("Icehighway$Piece", "depth", "I", true)
  | 3 => ("Icehighway$Piece", "black", "I", false)
  | 4 => ("Icehighway$Piece", "white", "I", false)
  | 5 => ("Icehighway$Piece", "water", "I", false)
  | 6 => ("Icehighway$Piece", "snow", "I", false)
  | 7 => ("Icehighway$Piece", "crack", "I", false)
  | 8 => ("Icehighway$Piece", "openness", "I", false)
  | 9 => ("Icehighway$Piece", "speedLimit", "I", false)
  | 10 => ("Icehighway$Piece", "known", "D", false)
  | 11 => ("Icehighway$Piece", "onToMine", "I", false)
  | 12 => ("Icehighway$Piece", "onToBase", "I", false)
  | 13 => ("Icehighway$Piece", "weightOn", "I", false)
  | 14 => ("Icehighway$Piece", "lastToMine", "I", false)
  | _ => ("Icehighway$Piece", "lastToBase", "I", false)
def tyX1 : Nat → FieldType := fun k => match k with
  | 0 => .int
  | 1 => .int
  | 2 => .int
  | 3 => .int
  | 4 => .int
  | 5 => .int
  | 6 => .int
  | 7 => .int
  | 8 => .int
  | 9 => .int
  | 10 => .double
  | 11 => .int
  | 12 => .int
  | 13 => .int
  | 14 => .int
  | _ => .int
abbrev wsX10 : List Cond := u_ws RX1 TX1 16
theorem nmX1 : ∀ a, a < 16 → ∀ b, b < 16 → a ≠ b → (TX1 a).2.1 ≠ (TX1 b).2.1 := by decide +kernel
theorem tyX1_ok : ∀ k, k < 16 → parseFieldDescriptor (TX1 k).2.2.1 = some (tyX1 k) := by decide +kernel
abbrev cX1_init : ByteArray := prog_3_method_1_code
def yX1_init : MethodName := ⟨RX1, "<init>", "(III)V"⟩
abbrev cX1_isWaterPiece : ByteArray := prog_3_method_2_code
def yX1_isWaterPiece : MethodName := ⟨RX1, "isWaterPiece", "()Z"⟩
abbrev cX1_hasIce : ByteArray := prog_3_method_3_code
def yX1_hasIce : MethodName := ⟨RX1, "hasIce", "()Z"⟩
abbrev cX1_realThickness : ByteArray := prog_3_method_4_code
def yX1_realThickness : MethodName := ⟨RX1, "realThickness", "()D"⟩
abbrev cX1_thicknessAs : ByteArray := prog_3_method_5_code
def yX1_thicknessAs : MethodName := ⟨RX1, "thicknessAs", "(Z)D"⟩
abbrev cX1_bearsAs : ByteArray := prog_3_method_6_code
def yX1_bearsAs : MethodName := ⟨RX1, "bearsAs", "(Z)I"⟩
abbrev cX1_freeze : ByteArray := prog_3_method_7_code
def yX1_freeze : MethodName := ⟨RX1, "freeze", "(I)V"⟩
abbrev cX1_growth : ByteArray := prog_3_method_8_code
def yX1_growth : MethodName := ⟨RX1, "growth", "(I)I"⟩
abbrev cX1_thaw : ByteArray := prog_3_method_9_code
def yX1_thaw : MethodName := ⟨RX1, "thaw", "(I)V"⟩
abbrev cX1_speedOf : ByteArray := prog_3_method_10_code
def yX1_speedOf : MethodName := ⟨RX1, "speedOf", "(LIcehighway$Vehicle;)I"⟩
abbrev cX1_minutesOf : ByteArray := prog_3_method_11_code
def yX1_minutesOf : MethodName := ⟨RX1, "minutesOf", "(LIcehighway$Vehicle;)I"⟩
abbrev cX1_countOn : ByteArray := prog_3_method_12_code
def yX1_countOn : MethodName := ⟨RX1, "countOn", "(Z)I"⟩
abbrev cX1_lastComing : ByteArray := prog_3_method_13_code
def yX1_lastComing : MethodName := ⟨RX1, "lastComing", "(Z)I"⟩
abbrev cX1_noteComing : ByteArray := prog_3_method_14_code
def yX1_noteComing : MethodName := ⟨RX1, "noteComing", "(ZI)V"⟩
abbrev cX1_takeOn : ByteArray := prog_3_method_15_code
def yX1_takeOn : MethodName := ⟨RX1, "takeOn", "(LIcehighway$Vehicle;)V"⟩
abbrev cX1_letOff : ByteArray := prog_3_method_16_code
def yX1_letOff : MethodName := ⟨RX1, "letOff", "(LIcehighway$Vehicle;)V"⟩
abbrev cX1_breakUp : ByteArray := prog_3_method_17_code
def yX1_breakUp : MethodName := ⟨RX1, "breakUp", "()V"⟩
def RX2 : String := "Icehighway$Vehicle"
def TX2 : u_T := fun k => match k with
  | 0 => ("Icehighway$Vehicle", "empty", "I", true)
  | 1 => ("Icehighway$Vehicle", "carries", "I", true)
  | 2 => ("Icehighway$Vehicle", "ownSpeed", "I", true)
  | 3 => ("Icehighway$Vehicle", "where", "I", false)
  | 4 => ("Icehighway$Vehicle", "between", "I", false)
  | 5 => ("Icehighway$Vehicle", "isToMine", "Z", false)
  | 6 => ("Icehighway$Vehicle", "overAt", "I", false)
  | _ => ("Icehighway$Vehicle", "cargo", "LIcehighway$Load;", false)
def tyX2 : Nat → FieldType := fun k => match k with
  | 0 => .int
  | 1 => .int
  | 2 => .int
  | 3 => .int
  | 4 => .int
  | 5 => .boolean
  | 6 => .int
  | _ => .object "Icehighway$Load"
abbrev wsX20 : List Cond := u_ws RX2 TX2 8
theorem nmX2 : ∀ a, a < 8 → ∀ b, b < 8 → a ≠ b → (TX2 a).2.1 ≠ (TX2 b).2.1 := by decide +kernel
theorem tyX2_ok : ∀ k, k < 8 → parseFieldDescriptor (TX2 k).2.2.1 = some (tyX2 k) := by decide +kernel
abbrev cX2_init : ByteArray := prog_4_method_1_code
def yX2_init : MethodName := ⟨RX2, "<init>", "(III)V"⟩
abbrev cX2_weight : ByteArray := prog_4_method_2_code
def yX2_weight : MethodName := ⟨RX2, "weight", "()I"⟩
def RX3 : String := "Icehighway"
def TX3 : u_T := fun k => match k with
  | 0 => ("Icehighway", "pieces", "Ljava/util/List;", true)
  | 1 => ("Icehighway", "vehicles", "Ljava/util/List;", true)
  | 2 => ("Icehighway", "entered", "Ljava/util/List;", true)
  | 3 => ("Icehighway", "taken", "[I", true)
  | 4 => ("Icehighway", "brought", "[I", true)
  | 5 => ("Icehighway", "ordered", "[I", true)
  | 6 => ("Icehighway", "now", "I", false)
  | 7 => ("Icehighway", "cold", "I", false)
  | _ => ("Icehighway", "gapMinutes", "I", false)
def tyX3 : Nat → FieldType := fun k => match k with
  | 0 => .object "java/util/List"
  | 1 => .object "java/util/List"
  | 2 => .object "java/util/List"
  | 3 => .array .int
  | 4 => .array .int
  | 5 => .array .int
  | 6 => .int
  | 7 => .int
  | _ => .int
abbrev wsX30 : List Cond := u_ws RX3 TX3 9
theorem nmX3 : ∀ a, a < 9 → ∀ b, b < 9 → a ≠ b → (TX3 a).2.1 ≠ (TX3 b).2.1 := by decide +kernel
theorem tyX3_ok : ∀ k, k < 9 → parseFieldDescriptor (TX3 k).2.2.1 = some (tyX3 k) := by decide +kernel
abbrev cX3_init : ByteArray := prog_1_method_1_code
def yX3_init : MethodName := ⟨RX3, "<init>", "()V"⟩
abbrev cX3_piece : ByteArray := prog_1_method_2_code
def yX3_piece : MethodName := ⟨RX3, "piece", "(III)I"⟩
abbrev cX3_weather : ByteArray := prog_1_method_3_code
def yX3_weather : MethodName := ⟨RX3, "weather", "(I)I"⟩
abbrev cX3_snow : ByteArray := prog_1_method_4_code
def yX3_snow : MethodName := ⟨RX3, "snow", "(I)I"⟩
abbrev cX3_plough : ByteArray := prog_1_method_5_code
def yX3_plough : MethodName := ⟨RX3, "plough", "(I)I"⟩
abbrev cX3_flood : ByteArray := prog_1_method_6_code
def yX3_flood : MethodName := ⟨RX3, "flood", "(II)I"⟩
abbrev cX3_drill : ByteArray := prog_1_method_7_code
def yX3_drill : MethodName := ⟨RX3, "drill", "(I)D"⟩
abbrev cX3_open : ByteArray := prog_1_method_8_code
def yX3_open : MethodName := ⟨RX3, "open", "(II)I"⟩
abbrev cX3_limit : ByteArray := prog_1_method_9_code
def yX3_limit : MethodName := ⟨RX3, "limit", "(II)I"⟩
abbrev cX3_gap : ByteArray := prog_1_method_10_code
def yX3_gap : MethodName := ⟨RX3, "gap", "(I)I"⟩
abbrev cX3_vehicle : ByteArray := prog_1_method_11_code
def yX3_vehicle : MethodName := ⟨RX3, "vehicle", "(III)I"⟩
abbrev cX3_load : ByteArray := prog_1_method_12_code
def yX3_load : MethodName := ⟨RX3, "load", "(III)I"⟩
abbrev cX3_go : ByteArray := prog_1_method_13_code
def yX3_go : MethodName := ⟨RX3, "go", "(I)Z"⟩
abbrev cX3_turn : ByteArray := prog_1_method_14_code
def yX3_turn : MethodName := ⟨RX3, "turn", "(I)Z"⟩
abbrev cX3_order : ByteArray := prog_1_method_15_code
def yX3_order : MethodName := ⟨RX3, "order", "(II)I"⟩
abbrev cX3_pass : ByteArray := prog_1_method_16_code
def yX3_pass : MethodName := ⟨RX3, "pass", "(I)I"⟩
abbrev cX3_minute : ByteArray := prog_1_method_17_code
def yX3_minute : MethodName := ⟨RX3, "minute", "()I"⟩
abbrev cX3_told : ByteArray := prog_1_method_18_code
def yX3_told : MethodName := ⟨RX3, "told", "(II)I"⟩
abbrev cX3_thickness : ByteArray := prog_1_method_19_code
def yX3_thickness : MethodName := ⟨RX3, "thickness", "(IZ)D"⟩
abbrev cX3_bears : ByteArray := prog_1_method_20_code
def yX3_bears : MethodName := ⟨RX3, "bears", "(IZ)I"⟩
abbrev cX3_ofVehicle : ByteArray := prog_1_method_21_code
def yX3_ofVehicle : MethodName := ⟨RX3, "ofVehicle", "(II)I"⟩
abbrev cX3_why : ByteArray := prog_1_method_22_code
def yX3_why : MethodName := ⟨RX3, "why", "(I)I"⟩
abbrev cX3_speed : ByteArray := prog_1_method_23_code
def yX3_speed : MethodName := ⟨RX3, "speed", "(II)I"⟩
abbrev cX3_minutes : ByteArray := prog_1_method_24_code
def yX3_minutes : MethodName := ⟨RX3, "minutes", "(II)I"⟩
abbrev cX3_minutesAnew : ByteArray := prog_1_method_25_code
def yX3_minutesAnew : MethodName := ⟨RX3, "minutesAnew", "(II)I"⟩
abbrev cX3_kilos : ByteArray := prog_1_method_26_code
def yX3_kilos : MethodName := ⟨RX3, "kilos", "(II)I"⟩
abbrev cX3_kilosAnew : ByteArray := prog_1_method_27_code
def yX3_kilosAnew : MethodName := ⟨RX3, "kilosAnew", "(I)I"⟩
abbrev cX3_bill : ByteArray := prog_1_method_28_code
def yX3_bill : MethodName := ⟨RX3, "bill", "()J"⟩
abbrev cX3_needRange : ByteArray := prog_1_method_29_code
def yX3_needRange : MethodName := ⟨RX3, "needRange", "(III)V"⟩
abbrev cX3_needGoods : ByteArray := prog_1_method_30_code
def yX3_needGoods : MethodName := ⟨RX3, "needGoods", "(I)V"⟩
abbrev cX3_pieceNumbered : ByteArray := prog_1_method_31_code
def yX3_pieceNumbered : MethodName := ⟨RX3, "pieceNumbered", "(I)LIcehighway$Piece;"⟩
abbrev cX3_vehicleNumbered : ByteArray := prog_1_method_32_code
def yX3_vehicleNumbered : MethodName := ⟨RX3, "vehicleNumbered", "(I)LIcehighway$Vehicle;"⟩
abbrev cX3_kilosInVehicles : ByteArray := prog_1_method_33_code
def yX3_kilosInVehicles : MethodName := ⟨RX3, "kilosInVehicles", "(IZ)I"⟩
abbrev cX3_kilosMissing : ByteArray := prog_1_method_34_code
def yX3_kilosMissing : MethodName := ⟨RX3, "kilosMissing", "(I)I"⟩
abbrev cX3_unload : ByteArray := prog_1_method_35_code
def yX3_unload : MethodName := ⟨RX3, "unload", "(LIcehighway$Vehicle;)V"⟩
abbrev cX3_passOneMinute : ByteArray := prog_1_method_36_code
def yX3_passOneMinute : MethodName := ⟨RX3, "passOneMinute", "()V"⟩
abbrev cX3_endDay : ByteArray := prog_1_method_37_code
def yX3_endDay : MethodName := ⟨RX3, "endDay", "()V"⟩
abbrev cX3_moveOn : ByteArray := prog_1_method_38_code
def yX3_moveOn : MethodName := ⟨RX3, "moveOn", "(LIcehighway$Vehicle;)V"⟩
abbrev cX3_leave : ByteArray := prog_1_method_39_code
def yX3_leave : MethodName := ⟨RX3, "leave", "(LIcehighway$Vehicle;)V"⟩
abbrev cX3_stopAtEnd : ByteArray := prog_1_method_40_code
def yX3_stopAtEnd : MethodName := ⟨RX3, "stopAtEnd", "(LIcehighway$Vehicle;)V"⟩
abbrev cX3_comeOnto : ByteArray := prog_1_method_41_code
def yX3_comeOnto : MethodName := ⟨RX3, "comeOnto", "(LIcehighway$Vehicle;)V"⟩
abbrev cX3_pieceAhead : ByteArray := prog_1_method_42_code
def yX3_pieceAhead : MethodName := ⟨RX3, "pieceAhead", "(LIcehighway$Vehicle;)LIcehighway$Piece;"⟩
abbrev cX3_whatIsAgainst : ByteArray := prog_1_method_43_code
def yX3_whatIsAgainst : MethodName := ⟨RX3, "whatIsAgainst", "(LIcehighway$Vehicle;)I"⟩
def RX4 : String := "IcehighwayModel"
def TX4 : u_T := fun k => match k with
  | _ => ("", "", "", false)
def tyX4 : Nat → FieldType := fun k => match k with
  | _ => .int
abbrev wsX40 : List Cond := u_ws RX4 TX4 0
theorem nmX4 : ∀ a, a < 0 → ∀ b, b < 0 → a ≠ b → (TX4 a).2.1 ≠ (TX4 b).2.1 := by decide +kernel
theorem tyX4_ok : ∀ k, k < 0 → parseFieldDescriptor (TX4 k).2.2.1 = some (tyX4 k) := by decide +kernel
def RJx145de : String := "java/io/Serializable"
def TJx145de : u_T := fun k => match k with
  | _ => ("", "", "", false)
def tyJx145de : Nat → FieldType := fun k => match k with
  | _ => .int
abbrev wsJx145de0 : List Cond := u_ws RJx145de TJx145de 0
theorem nmJx145de : ∀ a, a < 0 → ∀ b, b < 0 → a ≠ b → (TJx145de a).2.1 ≠ (TJx145de b).2.1 := by decide +kernel
theorem tyJx145de_ok : ∀ k, k < 0 → parseFieldDescriptor (TJx145de k).2.2.1 = some (tyJx145de k) := by decide +kernel
def RJx8e188 : String := "java/lang/Cloneable"
def TJx8e188 : u_T := fun k => match k with
  | _ => ("", "", "", false)
def tyJx8e188 : Nat → FieldType := fun k => match k with
  | _ => .int
abbrev wsJx8e1880 : List Cond := u_ws RJx8e188 TJx8e188 0
theorem nmJx8e188 : ∀ a, a < 0 → ∀ b, b < 0 → a ≠ b → (TJx8e188 a).2.1 ≠ (TJx8e188 b).2.1 := by decide +kernel
theorem tyJx8e188_ok : ∀ k, k < 0 → parseFieldDescriptor (TJx8e188 k).2.2.1 = some (tyJx8e188 k) := by decide +kernel
def RJxab1ab : String := "java/lang/Iterable"
def TJxab1ab : u_T := fun k => match k with
  | _ => ("", "", "", false)
def tyJxab1ab : Nat → FieldType := fun k => match k with
  | _ => .int
abbrev wsJxab1ab0 : List Cond := u_ws RJxab1ab TJxab1ab 0
theorem nmJxab1ab : ∀ a, a < 0 → ∀ b, b < 0 → a ≠ b → (TJxab1ab a).2.1 ≠ (TJxab1ab b).2.1 := by decide +kernel
theorem tyJxab1ab_ok : ∀ k, k < 0 → parseFieldDescriptor (TJxab1ab k).2.2.1 = some (tyJxab1ab k) := by decide +kernel
def RJ9 : String := "java/lang/Math"
def TJ9 : u_T := fun k => match k with
  | _ => ("", "", "", false)
def tyJ9 : Nat → FieldType := fun k => match k with
  | _ => .int
abbrev wsJ90 : List Cond := u_ws RJ9 TJ9 0
theorem nmJ9 : ∀ a, a < 0 → ∀ b, b < 0 → a ≠ b → (TJ9 a).2.1 ≠ (TJ9 b).2.1 := by decide +kernel
theorem tyJ9_ok : ∀ k, k < 0 → parseFieldDescriptor (TJ9 k).2.2.1 = some (tyJ9 k) := by decide +kernel
abbrev cJ9_max_7cf53 : ByteArray := prog_14_method_65_code
def yJ9_max_7cf53 : MethodName := ⟨RJ9, "max", "(II)I"⟩
abbrev cJ9_min_7cf53 : ByteArray := prog_14_method_69_code
def yJ9_min_7cf53 : MethodName := ⟨RJ9, "min", "(II)I"⟩
def RJ0 : String := "java/lang/String"
def TJ0 : u_T := fun k => match k with
  | _ => ("", "", "", false)
def tyJ0 : Nat → FieldType := fun k => match k with
  | _ => .int
abbrev wsJ00 : List Cond := u_ws RJ0 TJ0 0
theorem nmJ0 : ∀ a, a < 0 → ∀ b, b < 0 → a ≠ b → (TJ0 a).2.1 ≠ (TJ0 b).2.1 := by decide +kernel
theorem tyJ0_ok : ∀ k, k < 0 → parseFieldDescriptor (TJ0 k).2.2.1 = some (tyJ0 k) := by decide +kernel
def RJ10 : String := "java/lang/System"
def TJ10 : u_T := fun k => match k with
  | _ => ("", "", "", false)
def tyJ10 : Nat → FieldType := fun k => match k with
  | _ => .int
abbrev wsJ100 : List Cond := u_ws RJ10 TJ10 0
theorem nmJ10 : ∀ a, a < 0 → ∀ b, b < 0 → a ≠ b → (TJ10 a).2.1 ≠ (TJ10 b).2.1 := by decide +kernel
theorem tyJ10_ok : ∀ k, k < 0 → parseFieldDescriptor (TJ10 k).2.2.1 = some (tyJ10 k) := by decide +kernel
def RJxa1e45 : String := "java/util/AbstractCollection"
def TJxa1e45 : u_T := fun k => match k with
  | _ => ("", "", "", false)
def tyJxa1e45 : Nat → FieldType := fun k => match k with
  | _ => .int
abbrev wsJxa1e450 : List Cond := u_ws RJxa1e45 TJxa1e45 0
theorem nmJxa1e45 : ∀ a, a < 0 → ∀ b, b < 0 → a ≠ b → (TJxa1e45 a).2.1 ≠ (TJxa1e45 b).2.1 := by decide +kernel
theorem tyJxa1e45_ok : ∀ k, k < 0 → parseFieldDescriptor (TJxa1e45 k).2.2.1 = some (tyJxa1e45 k) := by decide +kernel
abbrev cJxa1e45_init_da8c8 : ByteArray := prog_19_method_1_code
def yJxa1e45_init_da8c8 : MethodName := ⟨RJxa1e45, "<init>", "()V"⟩
def RJxc12de : String := "java/util/AbstractList"
def TJxc12de : u_T := fun k => match k with
  | _ => ("", "", "", false)
def tyJxc12de : Nat → FieldType := fun k => match k with
  | _ => .int
abbrev wsJxc12de0 : List Cond := u_ws RJxc12de TJxc12de 0
theorem nmJxc12de : ∀ a, a < 0 → ∀ b, b < 0 → a ≠ b → (TJxc12de a).2.1 ≠ (TJxc12de b).2.1 := by decide +kernel
theorem tyJxc12de_ok : ∀ k, k < 0 → parseFieldDescriptor (TJxc12de k).2.2.1 = some (tyJxc12de k) := by decide +kernel
abbrev cJxc12de_init_da8c8 : ByteArray := prog_20_method_1_code
def yJxc12de_init_da8c8 : MethodName := ⟨RJxc12de, "<init>", "()V"⟩
def RJx4a65c : String := "java/util/ArrayList"
def TJx4a65c : u_T := fun k => match k with
  | 0 => ("java/util/AbstractList", "modCount", "I", false)
  | 1 => ("java/util/ArrayList", "elementData", "[Ljava/lang/Object;", false)
  | _ => ("java/util/ArrayList", "size", "I", false)
def tyJx4a65c : Nat → FieldType := fun k => match k with
  | 0 => .int
  | 1 => .array (.object "java/lang/Object")
  | _ => .int
abbrev wsJx4a65c0 : List Cond := u_ws RJx4a65c TJx4a65c 3
theorem nmJx4a65c : ∀ a, a < 3 → ∀ b, b < 3 → a ≠ b → (TJx4a65c a).2.1 ≠ (TJx4a65c b).2.1 := by decide +kernel
theorem tyJx4a65c_ok : ∀ k, k < 3 → parseFieldDescriptor (TJx4a65c k).2.2.1 = some (tyJx4a65c k) := by decide +kernel
abbrev cJx4a65c_init_da8c8 : ByteArray := prog_21_method_2_code
def yJx4a65c_init_da8c8 : MethodName := ⟨RJx4a65c, "<init>", "()V"⟩
abbrev cJx4a65c_grow_92f84 : ByteArray := prog_21_method_6_code
def yJx4a65c_grow_92f84 : MethodName := ⟨RJx4a65c, "grow", "(I)[Ljava/lang/Object;"⟩
abbrev cJx4a65c_grow_d5877 : ByteArray := prog_21_method_7_code
def yJx4a65c_grow_d5877 : MethodName := ⟨RJx4a65c, "grow", "()[Ljava/lang/Object;"⟩
abbrev cJx4a65c_size_8abf5 : ByteArray := prog_21_method_8_code
def yJx4a65c_size_8abf5 : MethodName := ⟨RJx4a65c, "size", "()I"⟩
abbrev cJx4a65c_isEmpty_aae02 : ByteArray := prog_21_method_9_code
def yJx4a65c_isEmpty_aae02 : MethodName := ⟨RJx4a65c, "isEmpty", "()Z"⟩
abbrev cJx4a65c_elementData_915e3 : ByteArray := prog_21_method_18_code
def yJx4a65c_elementData_915e3 : MethodName := ⟨RJx4a65c, "elementData", "(I)Ljava/lang/Object;"⟩
abbrev cJx4a65c_get_915e3 : ByteArray := prog_21_method_20_code
def yJx4a65c_get_915e3 : MethodName := ⟨RJx4a65c, "get", "(I)Ljava/lang/Object;"⟩
abbrev cJx4a65c_add_72be8 : ByteArray := prog_21_method_24_code
def yJx4a65c_add_72be8 : MethodName := ⟨RJx4a65c, "add", "(Ljava/lang/Object;[Ljava/lang/Object;I)V"⟩
abbrev cJx4a65c_add_9ea2d : ByteArray := prog_21_method_25_code
def yJx4a65c_add_9ea2d : MethodName := ⟨RJx4a65c, "add", "(Ljava/lang/Object;)Z"⟩
def RJ7 : String := "java/util/Arrays"
def TJ7 : u_T := fun k => match k with
  | _ => ("", "", "", false)
def tyJ7 : Nat → FieldType := fun k => match k with
  | _ => .int
abbrev wsJ70 : List Cond := u_ws RJ7 TJ7 0
theorem nmJ7 : ∀ a, a < 0 → ∀ b, b < 0 → a ≠ b → (TJ7 a).2.1 ≠ (TJ7 b).2.1 := by decide +kernel
theorem tyJ7_ok : ∀ k, k < 0 → parseFieldDescriptor (TJ7 k).2.2.1 = some (tyJ7 k) := by decide +kernel
abbrev cJ7_copyOf_1904c : ByteArray := prog_22_method_119_code
def yJ7_copyOf_1904c : MethodName := ⟨RJ7, "copyOf", "([Ljava/lang/Object;I)[Ljava/lang/Object;"⟩
abbrev cJ7_copyOf_6403c : ByteArray := prog_22_method_120_code
def yJ7_copyOf_6403c : MethodName := ⟨RJ7, "copyOf", "([Ljava/lang/Object;ILjava/lang/Class;)[Ljava/lang/Object;"⟩
def RJx5ef63 : String := "java/util/Collection"
def TJx5ef63 : u_T := fun k => match k with
  | _ => ("", "", "", false)
def tyJx5ef63 : Nat → FieldType := fun k => match k with
  | _ => .int
abbrev wsJx5ef630 : List Cond := u_ws RJx5ef63 TJx5ef63 0
theorem nmJx5ef63 : ∀ a, a < 0 → ∀ b, b < 0 → a ≠ b → (TJx5ef63 a).2.1 ≠ (TJx5ef63 b).2.1 := by decide +kernel
theorem tyJx5ef63_ok : ∀ k, k < 0 → parseFieldDescriptor (TJx5ef63 k).2.2.1 = some (tyJx5ef63 k) := by decide +kernel
def RJxbd725 : String := "java/util/List"
def TJxbd725 : u_T := fun k => match k with
  | _ => ("", "", "", false)
def tyJxbd725 : Nat → FieldType := fun k => match k with
  | _ => .int
abbrev wsJxbd7250 : List Cond := u_ws RJxbd725 TJxbd725 0
theorem nmJxbd725 : ∀ a, a < 0 → ∀ b, b < 0 → a ≠ b → (TJxbd725 a).2.1 ≠ (TJxbd725 b).2.1 := by decide +kernel
theorem tyJxbd725_ok : ∀ k, k < 0 → parseFieldDescriptor (TJxbd725 k).2.2.1 = some (tyJxbd725 k) := by decide +kernel
def RJ15 : String := "java/util/Objects"
def TJ15 : u_T := fun k => match k with
  | _ => ("", "", "", false)
def tyJ15 : Nat → FieldType := fun k => match k with
  | _ => .int
abbrev wsJ150 : List Cond := u_ws RJ15 TJ15 0
theorem nmJ15 : ∀ a, a < 0 → ∀ b, b < 0 → a ≠ b → (TJ15 a).2.1 ≠ (TJ15 b).2.1 := by decide +kernel
theorem tyJ15_ok : ∀ k, k < 0 → parseFieldDescriptor (TJ15 k).2.2.1 = some (tyJ15 k) := by decide +kernel
abbrev cJ15_checkIndex_7cf53 : ByteArray := prog_25_method_17_code
def yJ15_checkIndex_7cf53 : MethodName := ⟨RJ15, "checkIndex", "(II)I"⟩
def RJxf0a74 : String := "java/util/RandomAccess"
def TJxf0a74 : u_T := fun k => match k with
  | _ => ("", "", "", false)
def tyJxf0a74 : Nat → FieldType := fun k => match k with
  | _ => .int
abbrev wsJxf0a740 : List Cond := u_ws RJxf0a74 TJxf0a74 0
theorem nmJxf0a74 : ∀ a, a < 0 → ∀ b, b < 0 → a ≠ b → (TJxf0a74 a).2.1 ≠ (TJxf0a74 b).2.1 := by decide +kernel
theorem tyJxf0a74_ok : ∀ k, k < 0 → parseFieldDescriptor (TJxf0a74 k).2.2.1 = some (tyJxf0a74 k) := by decide +kernel
def RJxa66e6 : String := "java/util/SequencedCollection"
def TJxa66e6 : u_T := fun k => match k with
  | _ => ("", "", "", false)
def tyJxa66e6 : Nat → FieldType := fun k => match k with
  | _ => .int
abbrev wsJxa66e60 : List Cond := u_ws RJxa66e6 TJxa66e6 0
theorem nmJxa66e6 : ∀ a, a < 0 → ∀ b, b < 0 → a ≠ b → (TJxa66e6 a).2.1 ≠ (TJxa66e6 b).2.1 := by decide +kernel
theorem tyJxa66e6_ok : ∀ k, k < 0 → parseFieldDescriptor (TJxa66e6 k).2.2.1 = some (tyJxa66e6 k) := by decide +kernel
def RJ8 : String := "jdk/internal/util/ArraysSupport"
def TJ8 : u_T := fun k => match k with
  | _ => ("", "", "", false)
def tyJ8 : Nat → FieldType := fun k => match k with
  | _ => .int
abbrev wsJ80 : List Cond := u_ws RJ8 TJ8 0
theorem nmJ8 : ∀ a, a < 0 → ∀ b, b < 0 → a ≠ b → (TJ8 a).2.1 ≠ (TJ8 b).2.1 := by decide +kernel
theorem tyJ8_ok : ∀ k, k < 0 → parseFieldDescriptor (TJ8 k).2.2.1 = some (tyJ8 k) := by decide +kernel
abbrev cJ8_newLength_cabcc : ByteArray := prog_28_method_27_code
def yJ8_newLength_cabcc : MethodName := ⟨RJ8, "newLength", "(III)I"⟩
abbrev cJ8_hugeLength_7cf53 : ByteArray := prog_28_method_28_code
def yJ8_hugeLength_7cf53 : MethodName := ⟨RJ8, "hugeLength", "(II)I"⟩
def RJ3 : String := "jdk/internal/util/Preconditions"
def TJ3 : u_T := fun k => match k with
  | _ => ("", "", "", false)
def tyJ3 : Nat → FieldType := fun k => match k with
  | _ => .int
abbrev wsJ30 : List Cond := u_ws RJ3 TJ3 0
theorem nmJ3 : ∀ a, a < 0 → ∀ b, b < 0 → a ≠ b → (TJ3 a).2.1 ≠ (TJ3 b).2.1 := by decide +kernel
theorem tyJ3_ok : ∀ k, k < 0 → parseFieldDescriptor (TJ3 k).2.2.1 = some (tyJ3 k) := by decide +kernel
abbrev cJ3_checkIndex_8e157 : ByteArray := prog_29_method_11_code
def yJ3_checkIndex_8e157 : MethodName := ⟨RJ3, "checkIndex", "(IILjava/util/function/BiFunction;)I"⟩
def RL : String := "IcehighwayLaw"
abbrev cL_part : ByteArray := method_2_code
def yL_part : MethodName := ⟨RL, "part", "([III)I"⟩
abbrev cL_does : ByteArray := method_3_code
def yL_does : MethodName := ⟨RL, "does", "(LIcehighway;IIII)I"⟩
abbrev cL_bears : ByteArray := method_4_code
def yL_bears : MethodName := ⟨RL, "bears", "([I[III)I"⟩
abbrev cL_twice : ByteArray := method_5_code
def yL_twice : MethodName := ⟨RL, "twice", "([II)I"⟩
abbrev cL_speed : ByteArray := method_6_code
def yL_speed : MethodName := ⟨RL, "speed", "([I[I[III)I"⟩
abbrev cL_minutes : ByteArray := method_7_code
def yL_minutes : MethodName := ⟨RL, "minutes", "([I[I[III)I"⟩
abbrev cL_weights : ByteArray := method_8_code
def yL_weights : MethodName := ⟨RL, "weights", "([I[I[II)I"⟩
abbrev cL_why : ByteArray := method_9_code
def yL_why : MethodName := ⟨RL, "why", "([I[I[I[I[II)I"⟩
abbrev cL_unloads : ByteArray := method_10_code
def yL_unloads : MethodName := ⟨RL, "unloads", "([I[I[IIZ)V"⟩
abbrev cL_ends : ByteArray := method_11_code
def yL_ends : MethodName := ⟨RL, "ends", "([I[I[I)V"⟩
abbrev cL_minute : ByteArray := method_12_code
def yL_minute : MethodName := ⟨RL, "minute", "([I[I[I[I[I[I[I)V"⟩
abbrev cL_isSo : ByteArray := method_13_code
def yL_isSo : MethodName := ⟨RL, "isSo", "(LIcehighway;[I[I[I[I[I[I[I)Z"⟩
abbrev cL_isPiece : ByteArray := method_14_code
def yL_isPiece : MethodName := ⟨RL, "isPiece", "(LIcehighway;[I[I[I[IIII)Z"⟩
abbrev cL_isVehicle : ByteArray := method_15_code
def yL_isVehicle : MethodName := ⟨RL, "isVehicle", "(LIcehighway;[I[I[I[IIII)Z"⟩
abbrev cL_isTold : ByteArray := method_16_code
def yL_isTold : MethodName := ⟨RL, "isTold", "(LIcehighway;[I[I[I[I[I[I[IIII)Z"⟩
abbrev cL_law : ByteArray := code
def yL_law : MethodName := ⟨RL, "law", "([I)Z"⟩
abbrev vwCl : List vw_C := [(RJx4a65c, TJx4a65c, 3), (RX0, TX0, 3), (RX1, TX1, 16), (RX2, TX2, 8), (RX3, TX3, 9)]
