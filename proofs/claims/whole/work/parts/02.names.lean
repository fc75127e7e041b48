/-! names of classes, fields, methods (printed by the kit for this class), places of the tables words -/
def RX0 : String := "EtchedPlate$Plan"
def TX0 : u_T := fun k => match k with
  | 0 => ("EtchedPlate$Plan", "fewest", "[I", true)
  | 1 => ("EtchedPlate$Plan", "most", "[I", true)
  | 2 => ("EtchedPlate$Plan", "totals", "[I", true)
  | 3 => ("EtchedPlate$Plan", "lineCount", "I", false)
  | 4 => ("EtchedPlate$Plan", "totalCount", "I", false)
  | _ => ("EtchedPlate$Plan", "blockedLines", "I", false)
def tyX0 : Nat → FieldType := fun k => match k with
  | 0 => .array .int
  | 1 => .array .int
  | 2 => .array .int
  | 3 => .int
  | 4 => .int
  | _ => .int
abbrev wsX00 : List Cond := u_ws RX0 TX0 6
theorem nmX0 : ∀ a, a < 6 → ∀ b, b < 6 → a ≠ b → (TX0 a).2.1 ≠ (TX0 b).2.1 := by decide +kernel
theorem tyX0_ok : ∀ k, k < 6 → parseFieldDescriptor (TX0 k).2.2.1 = some (tyX0 k) := by decide +kernel
abbrev cX0_init : ByteArray := prog_2_method_1_code
def yX0_init : MethodName := ⟨RX0, "<init>", "()V"⟩
abbrev cX0_make : ByteArray := prog_2_method_2_code
def yX0_make : MethodName := ⟨RX0, "make", "(LEtchedPlate$Plate;[I)V"⟩
abbrev cX0_fewestMinutes : ByteArray := prog_2_method_3_code
def yX0_fewestMinutes : MethodName := ⟨RX0, "fewestMinutes", "(II)I"⟩
abbrev cX0_mostMinutes : ByteArray := prog_2_method_4_code
def yX0_mostMinutes : MethodName := ⟨RX0, "mostMinutes", "(II)I"⟩
abbrev cX0_chooseTotals : ByteArray := prog_2_method_5_code
def yX0_chooseTotals : MethodName := ⟨RX0, "chooseTotals", "()V"⟩
abbrev cX0_nextTotal : ByteArray := prog_2_method_6_code
def yX0_nextTotal : MethodName := ⟨RX0, "nextTotal", "(I)I"⟩
abbrev cX0_totalBefore : ByteArray := prog_2_method_7_code
def yX0_totalBefore : MethodName := ⟨RX0, "totalBefore", "(I)I"⟩
abbrev cX0_minutesAt : ByteArray := prog_2_method_8_code
def yX0_minutesAt : MethodName := ⟨RX0, "minutesAt", "(I)I"⟩
abbrev cX0_finishedBefore : ByteArray := prog_2_method_9_code
def yX0_finishedBefore : MethodName := ⟨RX0, "finishedBefore", "(I)I"⟩
def RX1 : String := "EtchedPlate$Plate"
def TX1 : u_T := fun k => match k with
  | 0 => ("EtchedPlate$Plate", "depths", "[I", true)
  | 1 => ("EtchedPlate$Plate", "printStates", "[I", true)
  | 2 => ("EtchedPlate$Plate", "printTones", "[I", true)
  | 3 => ("EtchedPlate$Plate", "lineCount", "I", false)
  | 4 => ("EtchedPlate$Plate", "varnishedLines", "I", false)
  | 5 => ("EtchedPlate$Plate", "strength", "I", false)
  | 6 => ("EtchedPlate$Plate", "printCount", "I", false)
  | 7 => ("EtchedPlate$Plate", "stateNumber", "I", false)
  | _ => ("EtchedPlate$Plate", "workedSincePrint", "Z", false)
def tyX1 : Nat → FieldType := fun k => match k with
  | 0 => .array .int
  | 1 => .array .int
  | 2 => .array .int
  | 3 => .int
  | 4 => .int
  | 5 => .int
  | 6 => .int
  | 7 => .int
  | _ => .boolean
abbrev wsX10 : List Cond := u_ws RX1 TX1 9
theorem nmX1 : ∀ a, a < 9 → ∀ b, b < 9 → a ≠ b → (TX1 a).2.1 ≠ (TX1 b).2.1 := by decide +kernel
theorem tyX1_ok : ∀ k, k < 9 → parseFieldDescriptor (TX1 k).2.2.1 = some (tyX1 k) := by decide +kernel
abbrev cX1_init : ByteArray := prog_3_method_1_code
def yX1_init : MethodName := ⟨RX1, "<init>", "()V"⟩
abbrev cX1_copyFrom : ByteArray := prog_3_method_2_code
def yX1_copyFrom : MethodName := ⟨RX1, "copyFrom", "(LEtchedPlate$Plate;)V"⟩
abbrev cX1_addLine : ByteArray := prog_3_method_3_code
def yX1_addLine : MethodName := ⟨RX1, "addLine", "()I"⟩
abbrev cX1_etch : ByteArray := prog_3_method_4_code
def yX1_etch : MethodName := ⟨RX1, "etch", "(I)I"⟩
abbrev cX1_rubDown : ByteArray := prog_3_method_5_code
def yX1_rubDown : MethodName := ⟨RX1, "rubDown", "(II)I"⟩
abbrev cX1_addPrint : ByteArray := prog_3_method_6_code
def yX1_addPrint : MethodName := ⟨RX1, "addPrint", "()I"⟩
abbrev cX1_wear : ByteArray := prog_3_method_7_code
def yX1_wear : MethodName := ⟨RX1, "wear", "()V"⟩
abbrev cX1_depthSum : ByteArray := prog_3_method_8_code
def yX1_depthSum : MethodName := ⟨RX1, "depthSum", "()I"⟩
abbrev cX1_printedTone : ByteArray := prog_3_method_9_code
def yX1_printedTone : MethodName := ⟨RX1, "printedTone", "(II)I"⟩
abbrev cX1_nowhereDarker : ByteArray := prog_3_method_10_code
def yX1_nowhereDarker : MethodName := ⟨RX1, "nowhereDarker", "(II)Z"⟩
abbrev cX1_countOrders : ByteArray := prog_3_method_11_code
def yX1_countOrders : MethodName := ⟨RX1, "countOrders", "(I)I"⟩
abbrev cX1_placesAmongLikes : ByteArray := prog_3_method_12_code
def yX1_placesAmongLikes : MethodName := ⟨RX1, "placesAmongLikes", "(II)I"⟩
abbrev cX1_differenceFrom : ByteArray := prog_3_method_13_code
def yX1_differenceFrom : MethodName := ⟨RX1, "differenceFrom", "(I[I)I"⟩
def RX2 : String := "EtchedPlate"
def TX2 : u_T := fun k => match k with
  | 0 => ("EtchedPlate", "now", "LEtchedPlate$Plate;", true)
  | 1 => ("EtchedPlate", "saved", "[LEtchedPlate$Plate;", true)
  | 2 => ("EtchedPlate", "plan", "LEtchedPlate$Plan;", true)
  | 3 => ("EtchedPlate", "targets", "[I", true)
  | 4 => ("EtchedPlate", "errors", "[I", true)
  | _ => ("EtchedPlate", "savedCount", "I", false)
def tyX2 : Nat → FieldType := fun k => match k with
  | 0 => .object "EtchedPlate$Plate"
  | 1 => .array (.object "EtchedPlate$Plate")
  | 2 => .object "EtchedPlate$Plan"
  | 3 => .array .int
  | 4 => .array .int
  | _ => .int
abbrev wsX20 : List Cond := u_ws RX2 TX2 6
theorem nmX2 : ∀ a, a < 6 → ∀ b, b < 6 → a ≠ b → (TX2 a).2.1 ≠ (TX2 b).2.1 := by decide +kernel
theorem tyX2_ok : ∀ k, k < 6 → parseFieldDescriptor (TX2 k).2.2.1 = some (tyX2 k) := by decide +kernel
abbrev cX2_init : ByteArray := prog_1_method_1_code
def yX2_init : MethodName := ⟨RX2, "<init>", "()V"⟩
abbrev cX2_draw : ByteArray := prog_1_method_2_code
def yX2_draw : MethodName := ⟨RX2, "draw", "()I"⟩
abbrev cX2_setStrength : ByteArray := prog_1_method_3_code
def yX2_setStrength : MethodName := ⟨RX2, "setStrength", "(I)I"⟩
abbrev cX2_dip : ByteArray := prog_1_method_4_code
def yX2_dip : MethodName := ⟨RX2, "dip", "(I)I"⟩
abbrev cX2_varnish : ByteArray := prog_1_method_5_code
def yX2_varnish : MethodName := ⟨RX2, "varnish", "(I)I"⟩
abbrev cX2_clean : ByteArray := prog_1_method_6_code
def yX2_clean : MethodName := ⟨RX2, "clean", "()I"⟩
abbrev cX2_burnish : ByteArray := prog_1_method_7_code
def yX2_burnish : MethodName := ⟨RX2, "burnish", "(II)I"⟩
abbrev cX2_pull : ByteArray := prog_1_method_8_code
def yX2_pull : MethodName := ⟨RX2, "pull", "()I"⟩
abbrev cX2_lines : ByteArray := prog_1_method_9_code
def yX2_lines : MethodName := ⟨RX2, "lines", "()I"⟩
abbrev cX2_depth : ByteArray := prog_1_method_10_code
def yX2_depth : MethodName := ⟨RX2, "depth", "(I)I"⟩
abbrev cX2_varnished : ByteArray := prog_1_method_11_code
def yX2_varnished : MethodName := ⟨RX2, "varnished", "()I"⟩
abbrev cX2_meanDepthBits : ByteArray := prog_1_method_12_code
def yX2_meanDepthBits : MethodName := ⟨RX2, "meanDepthBits", "()I"⟩
abbrev cX2_prints : ByteArray := prog_1_method_13_code
def yX2_prints : MethodName := ⟨RX2, "prints", "()I"⟩
abbrev cX2_stateOf : ByteArray := prog_1_method_14_code
def yX2_stateOf : MethodName := ⟨RX2, "stateOf", "(I)I"⟩
abbrev cX2_tone : ByteArray := prog_1_method_15_code
def yX2_tone : MethodName := ⟨RX2, "tone", "(II)I"⟩
abbrev cX2_mayPrecede : ByteArray := prog_1_method_16_code
def yX2_mayPrecede : MethodName := ⟨RX2, "mayPrecede", "(II)I"⟩
abbrev cX2_orders : ByteArray := prog_1_method_17_code
def yX2_orders : MethodName := ⟨RX2, "orders", "(I)I"⟩
abbrev cX2_bestState : ByteArray := prog_1_method_18_code
def yX2_bestState : MethodName := ⟨RX2, "bestState", "()I"⟩
abbrev cX2_setTarget : ByteArray := prog_1_method_19_code
def yX2_setTarget : MethodName := ⟨RX2, "setTarget", "(II)I"⟩
abbrev cX2_dips : ByteArray := prog_1_method_20_code
def yX2_dips : MethodName := ⟨RX2, "dips", "()I"⟩
abbrev cX2_dipMinutes : ByteArray := prog_1_method_21_code
def yX2_dipMinutes : MethodName := ⟨RX2, "dipMinutes", "(I)I"⟩
abbrev cX2_dipVarnish : ByteArray := prog_1_method_22_code
def yX2_dipVarnish : MethodName := ⟨RX2, "dipVarnish", "(I)I"⟩
abbrev cX2_obstacles : ByteArray := prog_1_method_23_code
def yX2_obstacles : MethodName := ⟨RX2, "obstacles", "()I"⟩
abbrev cX2_undo : ByteArray := prog_1_method_24_code
def yX2_undo : MethodName := ⟨RX2, "undo", "()I"⟩
abbrev cX2_errorCount : ByteArray := prog_1_method_25_code
def yX2_errorCount : MethodName := ⟨RX2, "errorCount", "(I)I"⟩
abbrev cX2_digest : ByteArray := prog_1_method_26_code
def yX2_digest : MethodName := ⟨RX2, "digest", "()J"⟩
abbrev cX2_mix : ByteArray := prog_1_method_27_code
def yX2_mix : MethodName := ⟨RX2, "mix", "(JI)J"⟩
abbrev cX2_mixLines : ByteArray := prog_1_method_28_code
def yX2_mixLines : MethodName := ⟨RX2, "mixLines", "(J)J"⟩
abbrev cX2_mixPrints : ByteArray := prog_1_method_29_code
def yX2_mixPrints : MethodName := ⟨RX2, "mixPrints", "(J)J"⟩
abbrev cX2_mixPlan : ByteArray := prog_1_method_30_code
def yX2_mixPlan : MethodName := ⟨RX2, "mixPlan", "(J)J"⟩
abbrev cX2_refuse : ByteArray := prog_1_method_31_code
def yX2_refuse : MethodName := ⟨RX2, "refuse", "(I)I"⟩
abbrev cX2_faultOfDip : ByteArray := prog_1_method_32_code
def yX2_faultOfDip : MethodName := ⟨RX2, "faultOfDip", "(I)I"⟩
abbrev cX2_isLine : ByteArray := prog_1_method_33_code
def yX2_isLine : MethodName := ⟨RX2, "isLine", "(I)Z"⟩
abbrev cX2_isPrint : ByteArray := prog_1_method_34_code
def yX2_isPrint : MethodName := ⟨RX2, "isPrint", "(I)Z"⟩
abbrev cX2_allBelow : ByteArray := prog_1_method_35_code
def yX2_allBelow : MethodName := ⟨RX2, "allBelow", "(I)I"⟩
abbrev cX2_isSetBelow : ByteArray := prog_1_method_36_code
def yX2_isSetBelow : MethodName := ⟨RX2, "isSetBelow", "(II)Z"⟩
abbrev cX2_contains : ByteArray := prog_1_method_37_code
def yX2_contains : MethodName := ⟨RX2, "contains", "(II)Z"⟩
abbrev cX2_save : ByteArray := prog_1_method_38_code
def yX2_save : MethodName := ⟨RX2, "save", "()V"⟩
abbrev cX2_dropOldest : ByteArray := prog_1_method_39_code
def yX2_dropOldest : MethodName := ⟨RX2, "dropOldest", "()V"⟩
abbrev cX2_bitsOf : ByteArray := prog_1_method_40_code
def yX2_bitsOf : MethodName := ⟨RX2, "bitsOf", "(F)I"⟩
def RX3 : String := "EtchedPlateModel"
def TX3 : u_T := fun k => match k with
  | 0 => ("EtchedPlateModel", "now", "[I", true)
  | 1 => ("EtchedPlateModel", "past", "[I", true)
  | 2 => ("EtchedPlateModel", "saved", "I", false)
  | 3 => ("EtchedPlateModel", "errors", "[I", true)
  | 4 => ("EtchedPlateModel", "target", "[I", true)
  | 5 => ("EtchedPlateModel", "ways", "[I", true)
  | 6 => ("EtchedPlateModel", "ahead", "[I", true)
  | 7 => ("EtchedPlateModel", "totals", "[I", true)
  | 8 => ("EtchedPlateModel", "uses", "[I", true)
  | 9 => ("EtchedPlateModel", "totalMany", "I", false)
  | _ => ("EtchedPlateModel", "hash", "J", false)
def tyX3 : Nat → FieldType := fun k => match k with
  | 0 => .array .int
  | 1 => .array .int
  | 2 => .int
  | 3 => .array .int
  | 4 => .array .int
  | 5 => .array .int
  | 6 => .array .int
  | 7 => .array .int
  | 8 => .array .int
  | 9 => .int
  | _ => .long
abbrev wsX30 : List Cond := u_ws RX3 TX3 11
theorem nmX3 : ∀ a, a < 11 → ∀ b, b < 11 → a ≠ b → (TX3 a).2.1 ≠ (TX3 b).2.1 := by decide +kernel
theorem tyX3_ok : ∀ k, k < 11 → parseFieldDescriptor (TX3 k).2.2.1 = some (tyX3 k) := by decide +kernel
abbrev cX3_init : ByteArray := prog_5_method_1_code
def yX3_init : MethodName := ⟨RX3, "<init>", "()V"⟩
abbrev cX3_within : ByteArray := prog_5_method_3_code
def yX3_within : MethodName := ⟨RX3, "within", "(III)Z"⟩
abbrev cX3_ones : ByteArray := prog_5_method_4_code
def yX3_ones : MethodName := ⟨RX3, "ones", "(I)I"⟩
abbrev cX3_fails : ByteArray := prog_5_method_5_code
def yX3_fails : MethodName := ⟨RX3, "fails", "(I)I"⟩
abbrev cX3_isLine : ByteArray := prog_5_method_6_code
def yX3_isLine : MethodName := ⟨RX3, "isLine", "(I)Z"⟩
abbrev cX3_isPrint : ByteArray := prog_5_method_7_code
def yX3_isPrint : MethodName := ⟨RX3, "isPrint", "(I)Z"⟩
abbrev cX3_saves : ByteArray := prog_5_method_8_code
def yX3_saves : MethodName := ⟨RX3, "saves", "()V"⟩
abbrev cX3_undo : ByteArray := prog_5_method_9_code
def yX3_undo : MethodName := ⟨RX3, "undo", "()I"⟩
abbrev cX3_draw : ByteArray := prog_5_method_10_code
def yX3_draw : MethodName := ⟨RX3, "draw", "()I"⟩
abbrev cX3_setStrength : ByteArray := prog_5_method_11_code
def yX3_setStrength : MethodName := ⟨RX3, "setStrength", "(I)I"⟩
abbrev cX3_dip : ByteArray := prog_5_method_12_code
def yX3_dip : MethodName := ⟨RX3, "dip", "(I)I"⟩
abbrev cX3_varnish : ByteArray := prog_5_method_13_code
def yX3_varnish : MethodName := ⟨RX3, "varnish", "(I)I"⟩
abbrev cX3_clean : ByteArray := prog_5_method_14_code
def yX3_clean : MethodName := ⟨RX3, "clean", "()I"⟩
abbrev cX3_burnish : ByteArray := prog_5_method_15_code
def yX3_burnish : MethodName := ⟨RX3, "burnish", "(II)I"⟩
abbrev cX3_pull : ByteArray := prog_5_method_16_code
def yX3_pull : MethodName := ⟨RX3, "pull", "()I"⟩
abbrev cX3_lines : ByteArray := prog_5_method_17_code
def yX3_lines : MethodName := ⟨RX3, "lines", "()I"⟩
abbrev cX3_depth : ByteArray := prog_5_method_18_code
def yX3_depth : MethodName := ⟨RX3, "depth", "(I)I"⟩
abbrev cX3_varnished : ByteArray := prog_5_method_19_code
def yX3_varnished : MethodName := ⟨RX3, "varnished", "()I"⟩
abbrev cX3_meanDepthBits : ByteArray := prog_5_method_20_code
def yX3_meanDepthBits : MethodName := ⟨RX3, "meanDepthBits", "()I"⟩
abbrev cX3_prints : ByteArray := prog_5_method_21_code
def yX3_prints : MethodName := ⟨RX3, "prints", "()I"⟩
abbrev cX3_stateOf : ByteArray := prog_5_method_22_code
def yX3_stateOf : MethodName := ⟨RX3, "stateOf", "(I)I"⟩
abbrev cX3_toneOf : ByteArray := prog_5_method_23_code
def yX3_toneOf : MethodName := ⟨RX3, "toneOf", "(II)I"⟩
abbrev cX3_tone : ByteArray := prog_5_method_24_code
def yX3_tone : MethodName := ⟨RX3, "tone", "(II)I"⟩
abbrev cX3_may : ByteArray := prog_5_method_25_code
def yX3_may : MethodName := ⟨RX3, "may", "(II)Z"⟩
abbrev cX3_mayPrecede : ByteArray := prog_5_method_26_code
def yX3_mayPrecede : MethodName := ⟨RX3, "mayPrecede", "(II)I"⟩
abbrev cX3_ordersOf : ByteArray := prog_5_method_27_code
def yX3_ordersOf : MethodName := ⟨RX3, "ordersOf", "(I)I"⟩
abbrev cX3_orders : ByteArray := prog_5_method_28_code
def yX3_orders : MethodName := ⟨RX3, "orders", "(I)I"⟩
abbrev cX3_bestState : ByteArray := prog_5_method_29_code
def yX3_bestState : MethodName := ⟨RX3, "bestState", "()I"⟩
abbrev cX3_setTarget : ByteArray := prog_5_method_30_code
def yX3_setTarget : MethodName := ⟨RX3, "setTarget", "(II)I"⟩
abbrev cX3_allows : ByteArray := prog_5_method_31_code
def yX3_allows : MethodName := ⟨RX3, "allows", "(II)Z"⟩
abbrev cX3_greatest : ByteArray := prog_5_method_32_code
def yX3_greatest : MethodName := ⟨RX3, "greatest", "(I)I"⟩
abbrev cX3_blocked : ByteArray := prog_5_method_33_code
def yX3_blocked : MethodName := ⟨RX3, "blocked", "()I"⟩
abbrev cX3_usedBy : ByteArray := prog_5_method_34_code
def yX3_usedBy : MethodName := ⟨RX3, "usedBy", "(I)I"⟩
abbrev cX3_plans : ByteArray := prog_5_method_35_code
def yX3_plans : MethodName := ⟨RX3, "plans", "()V"⟩
abbrev cX3_minutesOf : ByteArray := prog_5_method_36_code
def yX3_minutesOf : MethodName := ⟨RX3, "minutesOf", "(I)I"⟩
abbrev cX3_doneBefore : ByteArray := prog_5_method_37_code
def yX3_doneBefore : MethodName := ⟨RX3, "doneBefore", "(I)I"⟩
abbrev cX3_dips : ByteArray := prog_5_method_38_code
def yX3_dips : MethodName := ⟨RX3, "dips", "()I"⟩
abbrev cX3_against : ByteArray := prog_5_method_39_code
def yX3_against : MethodName := ⟨RX3, "against", "(I)I"⟩
abbrev cX3_dipMinutes : ByteArray := prog_5_method_40_code
def yX3_dipMinutes : MethodName := ⟨RX3, "dipMinutes", "(I)I"⟩
abbrev cX3_dipVarnish : ByteArray := prog_5_method_41_code
def yX3_dipVarnish : MethodName := ⟨RX3, "dipVarnish", "(I)I"⟩
abbrev cX3_obstacles : ByteArray := prog_5_method_42_code
def yX3_obstacles : MethodName := ⟨RX3, "obstacles", "()I"⟩
abbrev cX3_errorCount : ByteArray := prog_5_method_43_code
def yX3_errorCount : MethodName := ⟨RX3, "errorCount", "(I)I"⟩
abbrev cX3_mix : ByteArray := prog_5_method_44_code
def yX3_mix : MethodName := ⟨RX3, "mix", "(I)V"⟩
abbrev cX3_mixPrints : ByteArray := prog_5_method_45_code
def yX3_mixPrints : MethodName := ⟨RX3, "mixPrints", "()V"⟩
abbrev cX3_mixPlan : ByteArray := prog_5_method_46_code
def yX3_mixPlan : MethodName := ⟨RX3, "mixPlan", "()V"⟩
abbrev cX3_digest : ByteArray := prog_5_method_47_code
def yX3_digest : MethodName := ⟨RX3, "digest", "()J"⟩
def RJxf58ca : String := "java/lang/Float"
def TJxf58ca : u_T := fun k => match k with
  | _ => ("", "", "", false)
def tyJxf58ca : Nat → FieldType := fun k => match k with
  | _ => .int
abbrev wsJxf58ca0 : List Cond := u_ws RJxf58ca TJxf58ca 0
theorem nmJxf58ca : ∀ a, a < 0 → ∀ b, b < 0 → a ≠ b → (TJxf58ca a).2.1 ≠ (TJxf58ca b).2.1 := by decide +kernel
theorem tyJxf58ca_ok : ∀ k, k < 0 → parseFieldDescriptor (TJxf58ca k).2.2.1 = some (tyJxf58ca k) := by decide +kernel
abbrev cJxf58ca_isNaN_12338 : ByteArray := prog_6_method_6_code
def yJxf58ca_isNaN_12338 : MethodName := ⟨RJxf58ca, "isNaN", "(F)Z"⟩
abbrev cJxf58ca_floatToIntBits_5c35a : ByteArray := prog_6_method_24_code
def yJxf58ca_floatToIntBits_5c35a : MethodName := ⟨RJxf58ca, "floatToIntBits", "(F)I"⟩
def RJ6 : String := "java/lang/Integer"
def TJ6 : u_T := fun k => match k with
  | _ => ("", "", "", false)
def tyJ6 : Nat → FieldType := fun k => match k with
  | _ => .int
abbrev wsJ60 : List Cond := u_ws RJ6 TJ6 0
theorem nmJ6 : ∀ a, a < 0 → ∀ b, b < 0 → a ≠ b → (TJ6 a).2.1 ≠ (TJ6 b).2.1 := by decide +kernel
theorem tyJ6_ok : ∀ k, k < 0 → parseFieldDescriptor (TJ6 k).2.2.1 = some (tyJ6 k) := by decide +kernel
abbrev cJ6_bitCount_0f7a4 : ByteArray := prog_7_method_49_code
def yJ6_bitCount_0f7a4 : MethodName := ⟨RJ6, "bitCount", "(I)I"⟩
def RJ9 : String := "java/lang/Math"
def TJ9 : u_T := fun k => match k with
  | _ => ("", "", "", false)
def tyJ9 : Nat → FieldType := fun k => match k with
  | _ => .int
abbrev wsJ90 : List Cond := u_ws RJ9 TJ9 0
theorem nmJ9 : ∀ a, a < 0 → ∀ b, b < 0 → a ≠ b → (TJ9 a).2.1 ≠ (TJ9 b).2.1 := by decide +kernel
theorem tyJ9_ok : ∀ k, k < 0 → parseFieldDescriptor (TJ9 k).2.2.1 = some (tyJ9 k) := by decide +kernel
abbrev cJ9_abs_0f7a4 : ByteArray := prog_8_method_59_code
def yJ9_abs_0f7a4 : MethodName := ⟨RJ9, "abs", "(I)I"⟩
abbrev cJ9_max_7cf53 : ByteArray := prog_8_method_65_code
def yJ9_max_7cf53 : MethodName := ⟨RJ9, "max", "(II)I"⟩
abbrev cJ9_min_7cf53 : ByteArray := prog_8_method_69_code
def yJ9_min_7cf53 : MethodName := ⟨RJ9, "min", "(II)I"⟩
def RJ10 : String := "java/lang/System"
def TJ10 : u_T := fun k => match k with
  | _ => ("", "", "", false)
def tyJ10 : Nat → FieldType := fun k => match k with
  | _ => .int
abbrev wsJ100 : List Cond := u_ws RJ10 TJ10 0
theorem nmJ10 : ∀ a, a < 0 → ∀ b, b < 0 → a ≠ b → (TJ10 a).2.1 ≠ (TJ10 b).2.1 := by decide +kernel
theorem tyJ10_ok : ∀ k, k < 0 → parseFieldDescriptor (TJ10 k).2.2.1 = some (tyJ10 k) := by decide +kernel
def RL : String := "EtchedPlateLaw"
abbrev cL_law : ByteArray := code
def yL_law : MethodName := ⟨RL, "law", "([I)Z"⟩
abbrev vwCl : List vw_C := [(RX0, TX0, 6), (RX1, TX1, 9), (RX2, TX2, 6), (RX3, TX3, 11)]
/-- an instruction of a method: its place, its length, the next place -/
def Dc (cc : ByteArray) (pc len pc2 : Nat) (i : Instr) : Prop := decode cc pc = .ok (i, len) ∧ pc + len = pc2
/-- the words that are handed on to callees -/
def lw_g : List Cond := lw_tbl.filter goodWord
theorem q_0 : (Cond.selects "EtchedPlate" ({ cls := "EtchedPlate", name := "refuse", desc := "(I)I" } : Jvm.MethodName) ({ cls := "EtchedPlate", name := "refuse", desc := "(I)I" } : Jvm.MethodName)) ∈ lw_g := List.mem_filter.mpr ⟨List.mem_of_getElem? (i := 0) rfl, rfl⟩
theorem q_1 : (Cond.selects "EtchedPlate" ({ cls := "EtchedPlate", name := "save", desc := "()V" } : Jvm.MethodName) ({ cls := "EtchedPlate", name := "save", desc := "()V" } : Jvm.MethodName)) ∈ lw_g := List.mem_filter.mpr ⟨List.mem_of_getElem? (i := 1) rfl, rfl⟩
theorem q_2 : (Cond.selects "EtchedPlate" ({ cls := "EtchedPlate", name := "dropOldest", desc := "()V" } : Jvm.MethodName) ({ cls := "EtchedPlate", name := "dropOldest", desc := "()V" } : Jvm.MethodName)) ∈ lw_g := List.mem_filter.mpr ⟨List.mem_of_getElem? (i := 2) rfl, rfl⟩
theorem q_3 : (Cond.selects "EtchedPlate" ({ cls := "EtchedPlate", name := "isLine", desc := "(I)Z" } : Jvm.MethodName) ({ cls := "EtchedPlate", name := "isLine", desc := "(I)Z" } : Jvm.MethodName)) ∈ lw_g := List.mem_filter.mpr ⟨List.mem_of_getElem? (i := 3) rfl, rfl⟩
theorem q_4 : (Cond.selects "EtchedPlate$Plate" ({ cls := "EtchedPlate$Plate", name := "wear", desc := "()V" } : Jvm.MethodName) ({ cls := "EtchedPlate$Plate", name := "wear", desc := "()V" } : Jvm.MethodName)) ∈ lw_g := List.mem_filter.mpr ⟨List.mem_of_getElem? (i := 4) rfl, rfl⟩
theorem q_5 : (Cond.selects "EtchedPlate" ({ cls := "EtchedPlate", name := "isPrint", desc := "(I)Z" } : Jvm.MethodName) ({ cls := "EtchedPlate", name := "isPrint", desc := "(I)Z" } : Jvm.MethodName)) ∈ lw_g := List.mem_filter.mpr ⟨List.mem_of_getElem? (i := 5) rfl, rfl⟩
theorem q_6 : (Cond.selects "EtchedPlate$Plate" ({ cls := "EtchedPlate$Plate", name := "placesAmongLikes", desc := "(II)I" } : Jvm.MethodName) ({ cls := "EtchedPlate$Plate", name := "placesAmongLikes", desc := "(II)I" } : Jvm.MethodName)) ∈ lw_g := List.mem_filter.mpr ⟨List.mem_of_getElem? (i := 6) rfl, rfl⟩
theorem q_7 : (Cond.selects "EtchedPlate$Plan" ({ cls := "EtchedPlate$Plan", name := "chooseTotals", desc := "()V" } : Jvm.MethodName) ({ cls := "EtchedPlate$Plan", name := "chooseTotals", desc := "()V" } : Jvm.MethodName)) ∈ lw_g := List.mem_filter.mpr ⟨List.mem_of_getElem? (i := 7) rfl, rfl⟩
theorem q_8 : (Cond.selects "EtchedPlate$Plan" ({ cls := "EtchedPlate$Plan", name := "nextTotal", desc := "(I)I" } : Jvm.MethodName) ({ cls := "EtchedPlate$Plan", name := "nextTotal", desc := "(I)I" } : Jvm.MethodName)) ∈ lw_g := List.mem_filter.mpr ⟨List.mem_of_getElem? (i := 8) rfl, rfl⟩
theorem q_9 : (Cond.selects "EtchedPlate" ({ cls := "EtchedPlate", name := "faultOfDip", desc := "(I)I" } : Jvm.MethodName) ({ cls := "EtchedPlate", name := "faultOfDip", desc := "(I)I" } : Jvm.MethodName)) ∈ lw_g := List.mem_filter.mpr ⟨List.mem_of_getElem? (i := 9) rfl, rfl⟩
theorem q_10 : (Cond.selects "EtchedPlate$Plan" ({ cls := "EtchedPlate$Plan", name := "totalBefore", desc := "(I)I" } : Jvm.MethodName) ({ cls := "EtchedPlate$Plan", name := "totalBefore", desc := "(I)I" } : Jvm.MethodName)) ∈ lw_g := List.mem_filter.mpr ⟨List.mem_of_getElem? (i := 10) rfl, rfl⟩
theorem q_11 : (Cond.selects "EtchedPlate" ({ cls := "EtchedPlate", name := "mixLines", desc := "(J)J" } : Jvm.MethodName) ({ cls := "EtchedPlate", name := "mixLines", desc := "(J)J" } : Jvm.MethodName)) ∈ lw_g := List.mem_filter.mpr ⟨List.mem_of_getElem? (i := 11) rfl, rfl⟩
theorem q_12 : (Cond.selects "EtchedPlate" ({ cls := "EtchedPlate", name := "mixPrints", desc := "(J)J" } : Jvm.MethodName) ({ cls := "EtchedPlate", name := "mixPrints", desc := "(J)J" } : Jvm.MethodName)) ∈ lw_g := List.mem_filter.mpr ⟨List.mem_of_getElem? (i := 12) rfl, rfl⟩
theorem q_13 : (Cond.selects "EtchedPlate" ({ cls := "EtchedPlate", name := "mixPlan", desc := "(J)J" } : Jvm.MethodName) ({ cls := "EtchedPlate", name := "mixPlan", desc := "(J)J" } : Jvm.MethodName)) ∈ lw_g := List.mem_filter.mpr ⟨List.mem_of_getElem? (i := 13) rfl, rfl⟩
theorem q_14 : (Cond.selects "EtchedPlateModel" ({ cls := "EtchedPlateModel", name := "fails", desc := "(I)I" } : Jvm.MethodName) ({ cls := "EtchedPlateModel", name := "fails", desc := "(I)I" } : Jvm.MethodName)) ∈ lw_g := List.mem_filter.mpr ⟨List.mem_of_getElem? (i := 14) rfl, rfl⟩
theorem q_15 : (Cond.selects "EtchedPlateModel" ({ cls := "EtchedPlateModel", name := "saves", desc := "()V" } : Jvm.MethodName) ({ cls := "EtchedPlateModel", name := "saves", desc := "()V" } : Jvm.MethodName)) ∈ lw_g := List.mem_filter.mpr ⟨List.mem_of_getElem? (i := 15) rfl, rfl⟩
theorem q_16 : (Cond.selects "EtchedPlateModel" ({ cls := "EtchedPlateModel", name := "isLine", desc := "(I)Z" } : Jvm.MethodName) ({ cls := "EtchedPlateModel", name := "isLine", desc := "(I)Z" } : Jvm.MethodName)) ∈ lw_g := List.mem_filter.mpr ⟨List.mem_of_getElem? (i := 16) rfl, rfl⟩
theorem q_17 : (Cond.selects "EtchedPlateModel" ({ cls := "EtchedPlateModel", name := "isPrint", desc := "(I)Z" } : Jvm.MethodName) ({ cls := "EtchedPlateModel", name := "isPrint", desc := "(I)Z" } : Jvm.MethodName)) ∈ lw_g := List.mem_filter.mpr ⟨List.mem_of_getElem? (i := 17) rfl, rfl⟩
theorem q_18 : (Cond.selects "EtchedPlateModel" ({ cls := "EtchedPlateModel", name := "toneOf", desc := "(II)I" } : Jvm.MethodName) ({ cls := "EtchedPlateModel", name := "toneOf", desc := "(II)I" } : Jvm.MethodName)) ∈ lw_g := List.mem_filter.mpr ⟨List.mem_of_getElem? (i := 18) rfl, rfl⟩
theorem q_19 : (Cond.selects "EtchedPlateModel" ({ cls := "EtchedPlateModel", name := "may", desc := "(II)Z" } : Jvm.MethodName) ({ cls := "EtchedPlateModel", name := "may", desc := "(II)Z" } : Jvm.MethodName)) ∈ lw_g := List.mem_filter.mpr ⟨List.mem_of_getElem? (i := 19) rfl, rfl⟩
theorem q_20 : (Cond.selects "EtchedPlateModel" ({ cls := "EtchedPlateModel", name := "ordersOf", desc := "(I)I" } : Jvm.MethodName) ({ cls := "EtchedPlateModel", name := "ordersOf", desc := "(I)I" } : Jvm.MethodName)) ∈ lw_g := List.mem_filter.mpr ⟨List.mem_of_getElem? (i := 20) rfl, rfl⟩
theorem q_21 : (Cond.selects "EtchedPlateModel" ({ cls := "EtchedPlateModel", name := "blocked", desc := "()I" } : Jvm.MethodName) ({ cls := "EtchedPlateModel", name := "blocked", desc := "()I" } : Jvm.MethodName)) ∈ lw_g := List.mem_filter.mpr ⟨List.mem_of_getElem? (i := 21) rfl, rfl⟩
theorem q_22 : (Cond.selects "EtchedPlateModel" ({ cls := "EtchedPlateModel", name := "greatest", desc := "(I)I" } : Jvm.MethodName) ({ cls := "EtchedPlateModel", name := "greatest", desc := "(I)I" } : Jvm.MethodName)) ∈ lw_g := List.mem_filter.mpr ⟨List.mem_of_getElem? (i := 22) rfl, rfl⟩
theorem q_23 : (Cond.selects "EtchedPlateModel" ({ cls := "EtchedPlateModel", name := "allows", desc := "(II)Z" } : Jvm.MethodName) ({ cls := "EtchedPlateModel", name := "allows", desc := "(II)Z" } : Jvm.MethodName)) ∈ lw_g := List.mem_filter.mpr ⟨List.mem_of_getElem? (i := 23) rfl, rfl⟩
theorem q_24 : (Cond.selects "EtchedPlateModel" ({ cls := "EtchedPlateModel", name := "plans", desc := "()V" } : Jvm.MethodName) ({ cls := "EtchedPlateModel", name := "plans", desc := "()V" } : Jvm.MethodName)) ∈ lw_g := List.mem_filter.mpr ⟨List.mem_of_getElem? (i := 24) rfl, rfl⟩
theorem q_25 : (Cond.selects "EtchedPlateModel" ({ cls := "EtchedPlateModel", name := "usedBy", desc := "(I)I" } : Jvm.MethodName) ({ cls := "EtchedPlateModel", name := "usedBy", desc := "(I)I" } : Jvm.MethodName)) ∈ lw_g := List.mem_filter.mpr ⟨List.mem_of_getElem? (i := 25) rfl, rfl⟩
theorem q_26 : (Cond.selects "EtchedPlateModel" ({ cls := "EtchedPlateModel", name := "against", desc := "(I)I" } : Jvm.MethodName) ({ cls := "EtchedPlateModel", name := "against", desc := "(I)I" } : Jvm.MethodName)) ∈ lw_g := List.mem_filter.mpr ⟨List.mem_of_getElem? (i := 26) rfl, rfl⟩
theorem q_27 : (Cond.selects "EtchedPlateModel" ({ cls := "EtchedPlateModel", name := "minutesOf", desc := "(I)I" } : Jvm.MethodName) ({ cls := "EtchedPlateModel", name := "minutesOf", desc := "(I)I" } : Jvm.MethodName)) ∈ lw_g := List.mem_filter.mpr ⟨List.mem_of_getElem? (i := 27) rfl, rfl⟩
theorem q_28 : (Cond.selects "EtchedPlateModel" ({ cls := "EtchedPlateModel", name := "doneBefore", desc := "(I)I" } : Jvm.MethodName) ({ cls := "EtchedPlateModel", name := "doneBefore", desc := "(I)I" } : Jvm.MethodName)) ∈ lw_g := List.mem_filter.mpr ⟨List.mem_of_getElem? (i := 28) rfl, rfl⟩
theorem q_29 : (Cond.selects "EtchedPlateModel" ({ cls := "EtchedPlateModel", name := "mix", desc := "(I)V" } : Jvm.MethodName) ({ cls := "EtchedPlateModel", name := "mix", desc := "(I)V" } : Jvm.MethodName)) ∈ lw_g := List.mem_filter.mpr ⟨List.mem_of_getElem? (i := 29) rfl, rfl⟩
theorem q_30 : (Cond.selects "EtchedPlateModel" ({ cls := "EtchedPlateModel", name := "mixPrints", desc := "()V" } : Jvm.MethodName) ({ cls := "EtchedPlateModel", name := "mixPrints", desc := "()V" } : Jvm.MethodName)) ∈ lw_g := List.mem_filter.mpr ⟨List.mem_of_getElem? (i := 30) rfl, rfl⟩
theorem q_31 : (Cond.selects "EtchedPlateModel" ({ cls := "EtchedPlateModel", name := "mixPlan", desc := "()V" } : Jvm.MethodName) ({ cls := "EtchedPlateModel", name := "mixPlan", desc := "()V" } : Jvm.MethodName)) ∈ lw_g := List.mem_filter.mpr ⟨List.mem_of_getElem? (i := 31) rfl, rfl⟩
theorem q_32 : (Cond.initialized "EtchedPlateLaw") ∈ lw_g := List.mem_filter.mpr ⟨List.mem_of_getElem? (i := 32) rfl, rfl⟩
theorem q_33 : (Cond.initialized "EtchedPlate") ∈ lw_g := List.mem_filter.mpr ⟨List.mem_of_getElem? (i := 33) rfl, rfl⟩
theorem q_34 : (Cond.initialized "EtchedPlate$Plate") ∈ lw_g := List.mem_filter.mpr ⟨List.mem_of_getElem? (i := 34) rfl, rfl⟩
theorem q_35 : (Cond.initialized "EtchedPlate$Plan") ∈ lw_g := List.mem_filter.mpr ⟨List.mem_of_getElem? (i := 35) rfl, rfl⟩
theorem q_36 : (Cond.initialized "EtchedPlateModel") ∈ lw_g := List.mem_filter.mpr ⟨List.mem_of_getElem? (i := 36) rfl, rfl⟩
theorem q_37 : (Cond.initialized "java/lang/System") ∈ lw_g := List.mem_filter.mpr ⟨List.mem_of_getElem? (i := 37) rfl, rfl⟩
theorem q_38 : (Cond.initialized "java/lang/Math") ∈ lw_g := List.mem_filter.mpr ⟨List.mem_of_getElem? (i := 38) rfl, rfl⟩
theorem q_39 : (Cond.initialized "java/lang/Integer") ∈ lw_g := List.mem_filter.mpr ⟨List.mem_of_getElem? (i := 39) rfl, rfl⟩
theorem q_40 : (Cond.initialized "java/lang/Float") ∈ lw_g := List.mem_filter.mpr ⟨List.mem_of_getElem? (i := 40) rfl, rfl⟩
theorem q_41 : (Cond.classLink "EtchedPlateLaw" (7 : Nat) "EtchedPlate") ∈ lw_g := List.mem_filter.mpr ⟨List.mem_of_getElem? (i := 41) rfl, rfl⟩
theorem q_42 : (Cond.instantiable "EtchedPlate" (6 : Nat)) ∈ lw_g := List.mem_filter.mpr ⟨List.mem_of_getElem? (i := 42) rfl, rfl⟩
theorem q_43 : (Cond.methodLink "EtchedPlateLaw" (9 : Nat) ({ cls := "EtchedPlate", name := "<init>", desc := "()V" } : Jvm.MethodName)) ∈ lw_g := List.mem_filter.mpr ⟨List.mem_of_getElem? (i := 43) rfl, rfl⟩
theorem q_44 : (Cond.instanceMethod ({ cls := "EtchedPlate", name := "<init>", desc := "()V" } : Jvm.MethodName)) ∈ lw_g := List.mem_filter.mpr ⟨List.mem_of_getElem? (i := 44) rfl, rfl⟩
theorem q_45 : (Cond.code ({ cls := "EtchedPlate", name := "<init>", desc := "()V" } : Jvm.MethodName) prog_1_method_1_code (2 : Nat) (Option.none : Option Jvm.ClassFile.FieldType)) ∈ lw_g := List.mem_filter.mpr ⟨List.mem_of_getElem? (i := 45) rfl, rfl⟩
theorem q_46 : (Cond.methodLink "EtchedPlate" (1 : Nat) ({ cls := "java/lang/Object", name := "<init>", desc := "()V" } : Jvm.MethodName)) ∈ lw_g := List.mem_filter.mpr ⟨List.mem_of_getElem? (i := 46) rfl, rfl⟩
theorem q_47 : (Cond.instanceMethod ({ cls := "java/lang/Object", name := "<init>", desc := "()V" } : Jvm.MethodName)) ∈ lw_g := List.mem_filter.mpr ⟨List.mem_of_getElem? (i := 47) rfl, rfl⟩
theorem q_48 : (Cond.code ({ cls := "java/lang/Object", name := "<init>", desc := "()V" } : Jvm.MethodName) object_method_1_code (1 : Nat) (Option.none : Option Jvm.ClassFile.FieldType)) ∈ lw_g := List.mem_filter.mpr ⟨List.mem_of_getElem? (i := 48) rfl, rfl⟩
theorem q_49 : (Cond.classLink "EtchedPlate" (7 : Nat) "EtchedPlate$Plate") ∈ lw_g := List.mem_filter.mpr ⟨List.mem_of_getElem? (i := 49) rfl, rfl⟩
theorem q_50 : (Cond.instantiable "EtchedPlate$Plate" (9 : Nat)) ∈ lw_g := List.mem_filter.mpr ⟨List.mem_of_getElem? (i := 50) rfl, rfl⟩
theorem q_51 : (Cond.methodLinkNest "EtchedPlate" (9 : Nat) ({ cls := "EtchedPlate$Plate", name := "<init>", desc := "()V" } : Jvm.MethodName) "EtchedPlate") ∈ lw_tbl := List.mem_of_getElem? (i := 51) rfl
theorem q_52 : (Cond.instanceMethod ({ cls := "EtchedPlate$Plate", name := "<init>", desc := "()V" } : Jvm.MethodName)) ∈ lw_g := List.mem_filter.mpr ⟨List.mem_of_getElem? (i := 52) rfl, rfl⟩
theorem q_53 : (Cond.code ({ cls := "EtchedPlate$Plate", name := "<init>", desc := "()V" } : Jvm.MethodName) prog_3_method_1_code (1 : Nat) (Option.none : Option Jvm.ClassFile.FieldType)) ∈ lw_g := List.mem_filter.mpr ⟨List.mem_of_getElem? (i := 53) rfl, rfl⟩
theorem q_54 : (Cond.methodLink "EtchedPlate$Plate" (3 : Nat) ({ cls := "java/lang/Object", name := "<init>", desc := "()V" } : Jvm.MethodName)) ∈ lw_g := List.mem_filter.mpr ⟨List.mem_of_getElem? (i := 54) rfl, rfl⟩
theorem q_55 : (Cond.fieldLink "EtchedPlate$Plate" (9 : Nat) "EtchedPlate$Plate" "depths" "[I") ∈ lw_g := List.mem_filter.mpr ⟨List.mem_of_getElem? (i := 55) rfl, rfl⟩
theorem q_56 : (Cond.fieldLink "EtchedPlate$Plan" (34 : Nat) "EtchedPlate$Plate" "depths" "[I") ∈ lw_g := List.mem_filter.mpr ⟨List.mem_of_getElem? (i := 56) rfl, rfl⟩
theorem q_57 : (Cond.fieldLink "EtchedPlate" (84 : Nat) "EtchedPlate$Plate" "depths" "[I") ∈ lw_g := List.mem_filter.mpr ⟨List.mem_of_getElem? (i := 57) rfl, rfl⟩
theorem q_58 : (Cond.fieldLink "EtchedPlate$Plate" (15 : Nat) "EtchedPlate$Plate" "printStates" "[I") ∈ lw_g := List.mem_filter.mpr ⟨List.mem_of_getElem? (i := 58) rfl, rfl⟩
theorem q_59 : (Cond.fieldLink "EtchedPlate" (97 : Nat) "EtchedPlate$Plate" "printStates" "[I") ∈ lw_g := List.mem_filter.mpr ⟨List.mem_of_getElem? (i := 59) rfl, rfl⟩
theorem q_60 : (Cond.fieldLink "EtchedPlate$Plate" (18 : Nat) "EtchedPlate$Plate" "printTones" "[I") ∈ lw_g := List.mem_filter.mpr ⟨List.mem_of_getElem? (i := 60) rfl, rfl⟩
theorem q_61 : (Cond.fieldLink "EtchedPlate$Plate" (21 : Nat) "EtchedPlate$Plate" "lineCount" "I") ∈ lw_g := List.mem_filter.mpr ⟨List.mem_of_getElem? (i := 61) rfl, rfl⟩
theorem q_62 : (Cond.fieldLink "EtchedPlate$Plan" (31 : Nat) "EtchedPlate$Plate" "lineCount" "I") ∈ lw_g := List.mem_filter.mpr ⟨List.mem_of_getElem? (i := 62) rfl, rfl⟩
theorem q_63 : (Cond.fieldLink "EtchedPlate" (38 : Nat) "EtchedPlate$Plate" "lineCount" "I") ∈ lw_g := List.mem_filter.mpr ⟨List.mem_of_getElem? (i := 63) rfl, rfl⟩
theorem q_64 : (Cond.fieldLink "EtchedPlate$Plate" (25 : Nat) "EtchedPlate$Plate" "varnishedLines" "I") ∈ lw_g := List.mem_filter.mpr ⟨List.mem_of_getElem? (i := 64) rfl, rfl⟩
theorem q_65 : (Cond.fieldLink "EtchedPlate" (62 : Nat) "EtchedPlate$Plate" "varnishedLines" "I") ∈ lw_g := List.mem_filter.mpr ⟨List.mem_of_getElem? (i := 65) rfl, rfl⟩
theorem q_66 : (Cond.fieldLink "EtchedPlate$Plate" (28 : Nat) "EtchedPlate$Plate" "strength" "I") ∈ lw_g := List.mem_filter.mpr ⟨List.mem_of_getElem? (i := 66) rfl, rfl⟩
theorem q_67 : (Cond.fieldLink "EtchedPlate$Plan" (37 : Nat) "EtchedPlate$Plate" "strength" "I") ∈ lw_g := List.mem_filter.mpr ⟨List.mem_of_getElem? (i := 67) rfl, rfl⟩
theorem q_68 : (Cond.fieldLink "EtchedPlate" (52 : Nat) "EtchedPlate$Plate" "strength" "I") ∈ lw_g := List.mem_filter.mpr ⟨List.mem_of_getElem? (i := 68) rfl, rfl⟩
theorem q_69 : (Cond.fieldLink "EtchedPlate$Plate" (31 : Nat) "EtchedPlate$Plate" "printCount" "I") ∈ lw_g := List.mem_filter.mpr ⟨List.mem_of_getElem? (i := 69) rfl, rfl⟩
theorem q_70 : (Cond.fieldLink "EtchedPlate" (78 : Nat) "EtchedPlate$Plate" "printCount" "I") ∈ lw_g := List.mem_filter.mpr ⟨List.mem_of_getElem? (i := 70) rfl, rfl⟩
theorem q_71 : (Cond.fieldLink "EtchedPlate$Plate" (34 : Nat) "EtchedPlate$Plate" "stateNumber" "I") ∈ lw_g := List.mem_filter.mpr ⟨List.mem_of_getElem? (i := 71) rfl, rfl⟩
theorem q_72 : (Cond.fieldLink "EtchedPlate$Plate" (37 : Nat) "EtchedPlate$Plate" "workedSincePrint" "Z") ∈ lw_g := List.mem_filter.mpr ⟨List.mem_of_getElem? (i := 72) rfl, rfl⟩
theorem q_73 : (Cond.laysFinal "EtchedPlate$Plate" "EtchedPlate$Plate" "depths" "[I") ∈ lw_g := List.mem_filter.mpr ⟨List.mem_of_getElem? (i := 73) rfl, rfl⟩
theorem q_75 : (Cond.laysFinal "EtchedPlate$Plate" "EtchedPlate$Plate" "printStates" "[I") ∈ lw_g := List.mem_filter.mpr ⟨List.mem_of_getElem? (i := 75) rfl, rfl⟩
theorem q_77 : (Cond.laysFinal "EtchedPlate$Plate" "EtchedPlate$Plate" "printTones" "[I") ∈ lw_g := List.mem_filter.mpr ⟨List.mem_of_getElem? (i := 77) rfl, rfl⟩
theorem q_79 : (Cond.lays "EtchedPlate$Plate" "EtchedPlate$Plate" "lineCount" "I") ∈ lw_g := List.mem_filter.mpr ⟨List.mem_of_getElem? (i := 79) rfl, rfl⟩
theorem q_81 : (Cond.lays "EtchedPlate$Plate" "EtchedPlate$Plate" "varnishedLines" "I") ∈ lw_g := List.mem_filter.mpr ⟨List.mem_of_getElem? (i := 81) rfl, rfl⟩
theorem q_83 : (Cond.lays "EtchedPlate$Plate" "EtchedPlate$Plate" "strength" "I") ∈ lw_g := List.mem_filter.mpr ⟨List.mem_of_getElem? (i := 83) rfl, rfl⟩
theorem q_85 : (Cond.lays "EtchedPlate$Plate" "EtchedPlate$Plate" "printCount" "I") ∈ lw_g := List.mem_filter.mpr ⟨List.mem_of_getElem? (i := 85) rfl, rfl⟩
theorem q_87 : (Cond.lays "EtchedPlate$Plate" "EtchedPlate$Plate" "stateNumber" "I") ∈ lw_g := List.mem_filter.mpr ⟨List.mem_of_getElem? (i := 87) rfl, rfl⟩
theorem q_89 : (Cond.lays "EtchedPlate$Plate" "EtchedPlate$Plate" "workedSincePrint" "Z") ∈ lw_g := List.mem_filter.mpr ⟨List.mem_of_getElem? (i := 89) rfl, rfl⟩
theorem q_92 : (Cond.arrayClass Jvm.ClassFile.FieldType.int) ∈ lw_g := List.mem_filter.mpr ⟨List.mem_of_getElem? (i := 92) rfl, rfl⟩
theorem q_93 : (Cond.arrayOver (Jvm.ClassFile.FieldType.object "EtchedPlate$Plate")) ∈ lw_tbl := List.mem_of_getElem? (i := 93) rfl
theorem q_94 : (Cond.classLink "EtchedPlate" (20 : Nat) "EtchedPlate$Plan") ∈ lw_g := List.mem_filter.mpr ⟨List.mem_of_getElem? (i := 94) rfl, rfl⟩
theorem q_95 : (Cond.instantiable "EtchedPlate$Plan" (6 : Nat)) ∈ lw_g := List.mem_filter.mpr ⟨List.mem_of_getElem? (i := 95) rfl, rfl⟩
theorem q_96 : (Cond.methodLinkNest "EtchedPlate" (22 : Nat) ({ cls := "EtchedPlate$Plan", name := "<init>", desc := "()V" } : Jvm.MethodName) "EtchedPlate") ∈ lw_tbl := List.mem_of_getElem? (i := 96) rfl
theorem q_97 : (Cond.instanceMethod ({ cls := "EtchedPlate$Plan", name := "<init>", desc := "()V" } : Jvm.MethodName)) ∈ lw_g := List.mem_filter.mpr ⟨List.mem_of_getElem? (i := 97) rfl, rfl⟩
theorem q_98 : (Cond.code ({ cls := "EtchedPlate$Plan", name := "<init>", desc := "()V" } : Jvm.MethodName) prog_2_method_1_code (1 : Nat) (Option.none : Option Jvm.ClassFile.FieldType)) ∈ lw_g := List.mem_filter.mpr ⟨List.mem_of_getElem? (i := 98) rfl, rfl⟩
theorem q_99 : (Cond.methodLink "EtchedPlate$Plan" (3 : Nat) ({ cls := "java/lang/Object", name := "<init>", desc := "()V" } : Jvm.MethodName)) ∈ lw_g := List.mem_filter.mpr ⟨List.mem_of_getElem? (i := 99) rfl, rfl⟩
theorem q_100 : (Cond.fieldLink "EtchedPlate$Plan" (9 : Nat) "EtchedPlate$Plan" "fewest" "[I") ∈ lw_g := List.mem_filter.mpr ⟨List.mem_of_getElem? (i := 100) rfl, rfl⟩
theorem q_101 : (Cond.fieldLink "EtchedPlate$Plan" (15 : Nat) "EtchedPlate$Plan" "most" "[I") ∈ lw_g := List.mem_filter.mpr ⟨List.mem_of_getElem? (i := 101) rfl, rfl⟩
theorem q_102 : (Cond.fieldLink "EtchedPlate$Plan" (18 : Nat) "EtchedPlate$Plan" "totals" "[I") ∈ lw_g := List.mem_filter.mpr ⟨List.mem_of_getElem? (i := 102) rfl, rfl⟩
theorem q_103 : (Cond.fieldLink "EtchedPlate$Plan" (21 : Nat) "EtchedPlate$Plan" "lineCount" "I") ∈ lw_g := List.mem_filter.mpr ⟨List.mem_of_getElem? (i := 103) rfl, rfl⟩
theorem q_104 : (Cond.fieldLink "EtchedPlate$Plan" (25 : Nat) "EtchedPlate$Plan" "totalCount" "I") ∈ lw_g := List.mem_filter.mpr ⟨List.mem_of_getElem? (i := 104) rfl, rfl⟩
theorem q_105 : (Cond.fieldLink "EtchedPlate" (120 : Nat) "EtchedPlate$Plan" "totalCount" "I") ∈ lw_g := List.mem_filter.mpr ⟨List.mem_of_getElem? (i := 105) rfl, rfl⟩
theorem q_106 : (Cond.fieldLink "EtchedPlate$Plan" (28 : Nat) "EtchedPlate$Plan" "blockedLines" "I") ∈ lw_g := List.mem_filter.mpr ⟨List.mem_of_getElem? (i := 106) rfl, rfl⟩
theorem q_107 : (Cond.fieldLink "EtchedPlate" (117 : Nat) "EtchedPlate$Plan" "blockedLines" "I") ∈ lw_g := List.mem_filter.mpr ⟨List.mem_of_getElem? (i := 107) rfl, rfl⟩
theorem q_108 : (Cond.laysFinal "EtchedPlate$Plan" "EtchedPlate$Plan" "fewest" "[I") ∈ lw_g := List.mem_filter.mpr ⟨List.mem_of_getElem? (i := 108) rfl, rfl⟩
theorem q_110 : (Cond.laysFinal "EtchedPlate$Plan" "EtchedPlate$Plan" "most" "[I") ∈ lw_g := List.mem_filter.mpr ⟨List.mem_of_getElem? (i := 110) rfl, rfl⟩
theorem q_112 : (Cond.laysFinal "EtchedPlate$Plan" "EtchedPlate$Plan" "totals" "[I") ∈ lw_g := List.mem_filter.mpr ⟨List.mem_of_getElem? (i := 112) rfl, rfl⟩
theorem q_114 : (Cond.lays "EtchedPlate$Plan" "EtchedPlate$Plan" "lineCount" "I") ∈ lw_g := List.mem_filter.mpr ⟨List.mem_of_getElem? (i := 114) rfl, rfl⟩
theorem q_116 : (Cond.lays "EtchedPlate$Plan" "EtchedPlate$Plan" "totalCount" "I") ∈ lw_g := List.mem_filter.mpr ⟨List.mem_of_getElem? (i := 116) rfl, rfl⟩
theorem q_118 : (Cond.lays "EtchedPlate$Plan" "EtchedPlate$Plan" "blockedLines" "I") ∈ lw_g := List.mem_filter.mpr ⟨List.mem_of_getElem? (i := 118) rfl, rfl⟩
theorem q_121 : (Cond.fieldLink "EtchedPlate" (10 : Nat) "EtchedPlate" "now" "LEtchedPlate$Plate;") ∈ lw_g := List.mem_filter.mpr ⟨List.mem_of_getElem? (i := 121) rfl, rfl⟩
theorem q_122 : (Cond.fieldLink "EtchedPlate" (16 : Nat) "EtchedPlate" "saved" "[LEtchedPlate$Plate;") ∈ lw_g := List.mem_filter.mpr ⟨List.mem_of_getElem? (i := 122) rfl, rfl⟩
theorem q_123 : (Cond.fieldLink "EtchedPlate" (23 : Nat) "EtchedPlate" "plan" "LEtchedPlate$Plan;") ∈ lw_g := List.mem_filter.mpr ⟨List.mem_of_getElem? (i := 123) rfl, rfl⟩
theorem q_124 : (Cond.fieldLink "EtchedPlate" (27 : Nat) "EtchedPlate" "targets" "[I") ∈ lw_g := List.mem_filter.mpr ⟨List.mem_of_getElem? (i := 124) rfl, rfl⟩
theorem q_125 : (Cond.fieldLink "EtchedPlate" (31 : Nat) "EtchedPlate" "errors" "[I") ∈ lw_g := List.mem_filter.mpr ⟨List.mem_of_getElem? (i := 125) rfl, rfl⟩
theorem q_126 : (Cond.fieldLink "EtchedPlate" (34 : Nat) "EtchedPlate" "savedCount" "I") ∈ lw_g := List.mem_filter.mpr ⟨List.mem_of_getElem? (i := 126) rfl, rfl⟩
theorem q_127 : (Cond.laysFinal "EtchedPlate" "EtchedPlate" "now" "LEtchedPlate$Plate;") ∈ lw_g := List.mem_filter.mpr ⟨List.mem_of_getElem? (i := 127) rfl, rfl⟩
theorem q_129 : (Cond.laysFinal "EtchedPlate" "EtchedPlate" "saved" "[LEtchedPlate$Plate;") ∈ lw_g := List.mem_filter.mpr ⟨List.mem_of_getElem? (i := 129) rfl, rfl⟩
theorem q_131 : (Cond.laysFinal "EtchedPlate" "EtchedPlate" "plan" "LEtchedPlate$Plan;") ∈ lw_g := List.mem_filter.mpr ⟨List.mem_of_getElem? (i := 131) rfl, rfl⟩
theorem q_133 : (Cond.laysFinal "EtchedPlate" "EtchedPlate" "targets" "[I") ∈ lw_g := List.mem_filter.mpr ⟨List.mem_of_getElem? (i := 133) rfl, rfl⟩
theorem q_135 : (Cond.laysFinal "EtchedPlate" "EtchedPlate" "errors" "[I") ∈ lw_g := List.mem_filter.mpr ⟨List.mem_of_getElem? (i := 135) rfl, rfl⟩
theorem q_137 : (Cond.lays "EtchedPlate" "EtchedPlate" "savedCount" "I") ∈ lw_g := List.mem_filter.mpr ⟨List.mem_of_getElem? (i := 137) rfl, rfl⟩
theorem q_140 : (Cond.methodLink "EtchedPlateLaw" (13 : Nat) ({ cls := "EtchedPlate", name := "draw", desc := "()I" } : Jvm.MethodName)) ∈ lw_g := List.mem_filter.mpr ⟨List.mem_of_getElem? (i := 140) rfl, rfl⟩
theorem q_141 : (Cond.instanceMethod ({ cls := "EtchedPlate", name := "draw", desc := "()I" } : Jvm.MethodName)) ∈ lw_g := List.mem_filter.mpr ⟨List.mem_of_getElem? (i := 141) rfl, rfl⟩
theorem q_142 : (Cond.selects "EtchedPlate" ({ cls := "EtchedPlate", name := "draw", desc := "()I" } : Jvm.MethodName) ({ cls := "EtchedPlate", name := "draw", desc := "()I" } : Jvm.MethodName)) ∈ lw_g := List.mem_filter.mpr ⟨List.mem_of_getElem? (i := 142) rfl, rfl⟩
theorem q_143 : (Cond.code ({ cls := "EtchedPlate", name := "draw", desc := "()I" } : Jvm.MethodName) prog_1_method_2_code (1 : Nat) (Option.some Jvm.ClassFile.FieldType.int)) ∈ lw_g := List.mem_filter.mpr ⟨List.mem_of_getElem? (i := 143) rfl, rfl⟩
theorem q_144 : (Cond.methodLink "EtchedPlate" (41 : Nat) ({ cls := "EtchedPlate", name := "refuse", desc := "(I)I" } : Jvm.MethodName)) ∈ lw_g := List.mem_filter.mpr ⟨List.mem_of_getElem? (i := 144) rfl, rfl⟩
theorem q_146 : (Cond.instanceMethod ({ cls := "EtchedPlate", name := "refuse", desc := "(I)I" } : Jvm.MethodName)) ∈ lw_g := List.mem_filter.mpr ⟨List.mem_of_getElem? (i := 146) rfl, rfl⟩
theorem q_147 : (Cond.code ({ cls := "EtchedPlate", name := "refuse", desc := "(I)I" } : Jvm.MethodName) prog_1_method_31_code (2 : Nat) (Option.some Jvm.ClassFile.FieldType.int)) ∈ lw_g := List.mem_filter.mpr ⟨List.mem_of_getElem? (i := 147) rfl, rfl⟩
theorem q_148 : (Cond.methodLink "EtchedPlate" (45 : Nat) ({ cls := "EtchedPlate", name := "save", desc := "()V" } : Jvm.MethodName)) ∈ lw_g := List.mem_filter.mpr ⟨List.mem_of_getElem? (i := 148) rfl, rfl⟩
theorem q_150 : (Cond.instanceMethod ({ cls := "EtchedPlate", name := "save", desc := "()V" } : Jvm.MethodName)) ∈ lw_g := List.mem_filter.mpr ⟨List.mem_of_getElem? (i := 150) rfl, rfl⟩
theorem q_151 : (Cond.code ({ cls := "EtchedPlate", name := "save", desc := "()V" } : Jvm.MethodName) prog_1_method_38_code (1 : Nat) (Option.none : Option Jvm.ClassFile.FieldType)) ∈ lw_g := List.mem_filter.mpr ⟨List.mem_of_getElem? (i := 151) rfl, rfl⟩
theorem q_152 : (Cond.methodLink "EtchedPlate" (157 : Nat) ({ cls := "EtchedPlate", name := "dropOldest", desc := "()V" } : Jvm.MethodName)) ∈ lw_g := List.mem_filter.mpr ⟨List.mem_of_getElem? (i := 152) rfl, rfl⟩
theorem q_154 : (Cond.instanceMethod ({ cls := "EtchedPlate", name := "dropOldest", desc := "()V" } : Jvm.MethodName)) ∈ lw_g := List.mem_filter.mpr ⟨List.mem_of_getElem? (i := 154) rfl, rfl⟩
theorem q_155 : (Cond.code ({ cls := "EtchedPlate", name := "dropOldest", desc := "()V" } : Jvm.MethodName) prog_1_method_39_code (3 : Nat) (Option.none : Option Jvm.ClassFile.FieldType)) ∈ lw_g := List.mem_filter.mpr ⟨List.mem_of_getElem? (i := 155) rfl, rfl⟩
theorem q_156 : (Cond.methodLink "EtchedPlate" (132 : Nat) ({ cls := "EtchedPlate$Plate", name := "copyFrom", desc := "(LEtchedPlate$Plate;)V" } : Jvm.MethodName)) ∈ lw_g := List.mem_filter.mpr ⟨List.mem_of_getElem? (i := 156) rfl, rfl⟩
theorem q_157 : (Cond.instanceMethod ({ cls := "EtchedPlate$Plate", name := "copyFrom", desc := "(LEtchedPlate$Plate;)V" } : Jvm.MethodName)) ∈ lw_g := List.mem_filter.mpr ⟨List.mem_of_getElem? (i := 157) rfl, rfl⟩
theorem q_158 : (Cond.selects "EtchedPlate$Plate" ({ cls := "EtchedPlate$Plate", name := "copyFrom", desc := "(LEtchedPlate$Plate;)V" } : Jvm.MethodName) ({ cls := "EtchedPlate$Plate", name := "copyFrom", desc := "(LEtchedPlate$Plate;)V" } : Jvm.MethodName)) ∈ lw_g := List.mem_filter.mpr ⟨List.mem_of_getElem? (i := 158) rfl, rfl⟩
theorem q_159 : (Cond.code ({ cls := "EtchedPlate$Plate", name := "copyFrom", desc := "(LEtchedPlate$Plate;)V" } : Jvm.MethodName) prog_3_method_2_code (2 : Nat) (Option.none : Option Jvm.ClassFile.FieldType)) ∈ lw_g := List.mem_filter.mpr ⟨List.mem_of_getElem? (i := 159) rfl, rfl⟩
theorem q_160 : (Cond.methodLink "EtchedPlate$Plate" (41 : Nat) ({ cls := "java/lang/System", name := "arraycopy", desc := "(Ljava/lang/Object;ILjava/lang/Object;II)V" } : Jvm.MethodName)) ∈ lw_g := List.mem_filter.mpr ⟨List.mem_of_getElem? (i := 160) rfl, rfl⟩
theorem q_161 : (Cond.static ({ cls := "java/lang/System", name := "arraycopy", desc := "(Ljava/lang/Object;ILjava/lang/Object;II)V" } : Jvm.MethodName)) ∈ lw_g := List.mem_filter.mpr ⟨List.mem_of_getElem? (i := 161) rfl, rfl⟩
theorem q_162 : (Cond.native ({ cls := "java/lang/System", name := "arraycopy", desc := "(Ljava/lang/Object;ILjava/lang/Object;II)V" } : Jvm.MethodName)) ∈ lw_g := List.mem_filter.mpr ⟨List.mem_of_getElem? (i := 162) rfl, rfl⟩
theorem q_163 : (Cond.methodLink "EtchedPlate" (48 : Nat) ({ cls := "EtchedPlate$Plate", name := "addLine", desc := "()I" } : Jvm.MethodName)) ∈ lw_g := List.mem_filter.mpr ⟨List.mem_of_getElem? (i := 163) rfl, rfl⟩
theorem q_164 : (Cond.instanceMethod ({ cls := "EtchedPlate$Plate", name := "addLine", desc := "()I" } : Jvm.MethodName)) ∈ lw_g := List.mem_filter.mpr ⟨List.mem_of_getElem? (i := 164) rfl, rfl⟩
theorem q_165 : (Cond.selects "EtchedPlate$Plate" ({ cls := "EtchedPlate$Plate", name := "addLine", desc := "()I" } : Jvm.MethodName) ({ cls := "EtchedPlate$Plate", name := "addLine", desc := "()I" } : Jvm.MethodName)) ∈ lw_g := List.mem_filter.mpr ⟨List.mem_of_getElem? (i := 165) rfl, rfl⟩
theorem q_166 : (Cond.code ({ cls := "EtchedPlate$Plate", name := "addLine", desc := "()I" } : Jvm.MethodName) prog_3_method_3_code (2 : Nat) (Option.some Jvm.ClassFile.FieldType.int)) ∈ lw_g := List.mem_filter.mpr ⟨List.mem_of_getElem? (i := 166) rfl, rfl⟩
theorem q_167 : (Cond.methodLink "EtchedPlateLaw" (18 : Nat) ({ cls := "EtchedPlate", name := "setStrength", desc := "(I)I" } : Jvm.MethodName)) ∈ lw_g := List.mem_filter.mpr ⟨List.mem_of_getElem? (i := 167) rfl, rfl⟩
theorem q_168 : (Cond.instanceMethod ({ cls := "EtchedPlate", name := "setStrength", desc := "(I)I" } : Jvm.MethodName)) ∈ lw_g := List.mem_filter.mpr ⟨List.mem_of_getElem? (i := 168) rfl, rfl⟩
theorem q_169 : (Cond.selects "EtchedPlate" ({ cls := "EtchedPlate", name := "setStrength", desc := "(I)I" } : Jvm.MethodName) ({ cls := "EtchedPlate", name := "setStrength", desc := "(I)I" } : Jvm.MethodName)) ∈ lw_g := List.mem_filter.mpr ⟨List.mem_of_getElem? (i := 169) rfl, rfl⟩
theorem q_170 : (Cond.code ({ cls := "EtchedPlate", name := "setStrength", desc := "(I)I" } : Jvm.MethodName) prog_1_method_3_code (3 : Nat) (Option.some Jvm.ClassFile.FieldType.int)) ∈ lw_g := List.mem_filter.mpr ⟨List.mem_of_getElem? (i := 170) rfl, rfl⟩
theorem q_171 : (Cond.methodLink "EtchedPlateLaw" (23 : Nat) ({ cls := "EtchedPlate", name := "dip", desc := "(I)I" } : Jvm.MethodName)) ∈ lw_g := List.mem_filter.mpr ⟨List.mem_of_getElem? (i := 171) rfl, rfl⟩
theorem q_172 : (Cond.instanceMethod ({ cls := "EtchedPlate", name := "dip", desc := "(I)I" } : Jvm.MethodName)) ∈ lw_g := List.mem_filter.mpr ⟨List.mem_of_getElem? (i := 172) rfl, rfl⟩
theorem q_173 : (Cond.selects "EtchedPlate" ({ cls := "EtchedPlate", name := "dip", desc := "(I)I" } : Jvm.MethodName) ({ cls := "EtchedPlate", name := "dip", desc := "(I)I" } : Jvm.MethodName)) ∈ lw_g := List.mem_filter.mpr ⟨List.mem_of_getElem? (i := 173) rfl, rfl⟩
theorem q_174 : (Cond.code ({ cls := "EtchedPlate", name := "dip", desc := "(I)I" } : Jvm.MethodName) prog_1_method_4_code (2 : Nat) (Option.some Jvm.ClassFile.FieldType.int)) ∈ lw_g := List.mem_filter.mpr ⟨List.mem_of_getElem? (i := 174) rfl, rfl⟩
theorem q_175 : (Cond.methodLink "EtchedPlate" (55 : Nat) ({ cls := "EtchedPlate$Plate", name := "etch", desc := "(I)I" } : Jvm.MethodName)) ∈ lw_g := List.mem_filter.mpr ⟨List.mem_of_getElem? (i := 175) rfl, rfl⟩
theorem q_176 : (Cond.instanceMethod ({ cls := "EtchedPlate$Plate", name := "etch", desc := "(I)I" } : Jvm.MethodName)) ∈ lw_g := List.mem_filter.mpr ⟨List.mem_of_getElem? (i := 176) rfl, rfl⟩
theorem q_177 : (Cond.selects "EtchedPlate$Plate" ({ cls := "EtchedPlate$Plate", name := "etch", desc := "(I)I" } : Jvm.MethodName) ({ cls := "EtchedPlate$Plate", name := "etch", desc := "(I)I" } : Jvm.MethodName)) ∈ lw_g := List.mem_filter.mpr ⟨List.mem_of_getElem? (i := 177) rfl, rfl⟩
theorem q_178 : (Cond.code ({ cls := "EtchedPlate$Plate", name := "etch", desc := "(I)I" } : Jvm.MethodName) prog_3_method_4_code (5 : Nat) (Option.some Jvm.ClassFile.FieldType.int)) ∈ lw_g := List.mem_filter.mpr ⟨List.mem_of_getElem? (i := 178) rfl, rfl⟩
theorem q_179 : (Cond.methodLinkNest "EtchedPlate$Plate" (47 : Nat) ({ cls := "EtchedPlate", name := "contains", desc := "(II)Z" } : Jvm.MethodName) "EtchedPlate") ∈ lw_tbl := List.mem_of_getElem? (i := 179) rfl
theorem q_180 : (Cond.static ({ cls := "EtchedPlate", name := "contains", desc := "(II)Z" } : Jvm.MethodName)) ∈ lw_g := List.mem_filter.mpr ⟨List.mem_of_getElem? (i := 180) rfl, rfl⟩
theorem q_181 : (Cond.code ({ cls := "EtchedPlate", name := "contains", desc := "(II)Z" } : Jvm.MethodName) prog_1_method_37_code (2 : Nat) (Option.some Jvm.ClassFile.FieldType.boolean)) ∈ lw_g := List.mem_filter.mpr ⟨List.mem_of_getElem? (i := 181) rfl, rfl⟩
theorem q_182 : (Cond.methodLink "EtchedPlate$Plate" (51 : Nat) ({ cls := "java/lang/Math", name := "min", desc := "(II)I" } : Jvm.MethodName)) ∈ lw_g := List.mem_filter.mpr ⟨List.mem_of_getElem? (i := 182) rfl, rfl⟩
theorem q_183 : (Cond.static ({ cls := "java/lang/Math", name := "min", desc := "(II)I" } : Jvm.MethodName)) ∈ lw_g := List.mem_filter.mpr ⟨List.mem_of_getElem? (i := 183) rfl, rfl⟩
theorem q_184 : (Cond.code ({ cls := "java/lang/Math", name := "min", desc := "(II)I" } : Jvm.MethodName) prog_8_method_69_code (2 : Nat) (Option.some Jvm.ClassFile.FieldType.int)) ∈ lw_g := List.mem_filter.mpr ⟨List.mem_of_getElem? (i := 184) rfl, rfl⟩
theorem q_185 : (Cond.methodLink "EtchedPlateLaw" (27 : Nat) ({ cls := "EtchedPlate", name := "varnish", desc := "(I)I" } : Jvm.MethodName)) ∈ lw_g := List.mem_filter.mpr ⟨List.mem_of_getElem? (i := 185) rfl, rfl⟩
theorem q_186 : (Cond.instanceMethod ({ cls := "EtchedPlate", name := "varnish", desc := "(I)I" } : Jvm.MethodName)) ∈ lw_g := List.mem_filter.mpr ⟨List.mem_of_getElem? (i := 186) rfl, rfl⟩
theorem q_187 : (Cond.selects "EtchedPlate" ({ cls := "EtchedPlate", name := "varnish", desc := "(I)I" } : Jvm.MethodName) ({ cls := "EtchedPlate", name := "varnish", desc := "(I)I" } : Jvm.MethodName)) ∈ lw_g := List.mem_filter.mpr ⟨List.mem_of_getElem? (i := 187) rfl, rfl⟩
theorem q_188 : (Cond.code ({ cls := "EtchedPlate", name := "varnish", desc := "(I)I" } : Jvm.MethodName) prog_1_method_5_code (2 : Nat) (Option.some Jvm.ClassFile.FieldType.int)) ∈ lw_g := List.mem_filter.mpr ⟨List.mem_of_getElem? (i := 188) rfl, rfl⟩
theorem q_189 : (Cond.methodLink "EtchedPlate" (58 : Nat) ({ cls := "EtchedPlate", name := "isSetBelow", desc := "(II)Z" } : Jvm.MethodName)) ∈ lw_g := List.mem_filter.mpr ⟨List.mem_of_getElem? (i := 189) rfl, rfl⟩
theorem q_190 : (Cond.static ({ cls := "EtchedPlate", name := "isSetBelow", desc := "(II)Z" } : Jvm.MethodName)) ∈ lw_g := List.mem_filter.mpr ⟨List.mem_of_getElem? (i := 190) rfl, rfl⟩
theorem q_191 : (Cond.code ({ cls := "EtchedPlate", name := "isSetBelow", desc := "(II)Z" } : Jvm.MethodName) prog_1_method_36_code (2 : Nat) (Option.some Jvm.ClassFile.FieldType.boolean)) ∈ lw_g := List.mem_filter.mpr ⟨List.mem_of_getElem? (i := 191) rfl, rfl⟩
theorem q_192 : (Cond.methodLink "EtchedPlate" (152 : Nat) ({ cls := "EtchedPlate", name := "allBelow", desc := "(I)I" } : Jvm.MethodName)) ∈ lw_g := List.mem_filter.mpr ⟨List.mem_of_getElem? (i := 192) rfl, rfl⟩
theorem q_193 : (Cond.static ({ cls := "EtchedPlate", name := "allBelow", desc := "(I)I" } : Jvm.MethodName)) ∈ lw_g := List.mem_filter.mpr ⟨List.mem_of_getElem? (i := 193) rfl, rfl⟩
theorem q_194 : (Cond.code ({ cls := "EtchedPlate", name := "allBelow", desc := "(I)I" } : Jvm.MethodName) prog_1_method_35_code (1 : Nat) (Option.some Jvm.ClassFile.FieldType.int)) ∈ lw_g := List.mem_filter.mpr ⟨List.mem_of_getElem? (i := 194) rfl, rfl⟩
theorem q_195 : (Cond.methodLink "EtchedPlate" (65 : Nat) ({ cls := "java/lang/Integer", name := "bitCount", desc := "(I)I" } : Jvm.MethodName)) ∈ lw_g := List.mem_filter.mpr ⟨List.mem_of_getElem? (i := 195) rfl, rfl⟩
theorem q_196 : (Cond.static ({ cls := "java/lang/Integer", name := "bitCount", desc := "(I)I" } : Jvm.MethodName)) ∈ lw_g := List.mem_filter.mpr ⟨List.mem_of_getElem? (i := 196) rfl, rfl⟩
theorem q_197 : (Cond.code ({ cls := "java/lang/Integer", name := "bitCount", desc := "(I)I" } : Jvm.MethodName) prog_7_method_49_code (1 : Nat) (Option.some Jvm.ClassFile.FieldType.int)) ∈ lw_g := List.mem_filter.mpr ⟨List.mem_of_getElem? (i := 197) rfl, rfl⟩
theorem q_198 : (Cond.constant "java/lang/Integer" (265 : Nat) (1431655765 : Int32)) ∈ lw_g := List.mem_filter.mpr ⟨List.mem_of_getElem? (i := 198) rfl, rfl⟩
theorem q_199 : (Cond.constant "java/lang/Integer" (266 : Nat) (858993459 : Int32)) ∈ lw_g := List.mem_filter.mpr ⟨List.mem_of_getElem? (i := 199) rfl, rfl⟩
theorem q_200 : (Cond.constant "java/lang/Integer" (267 : Nat) (252645135 : Int32)) ∈ lw_g := List.mem_filter.mpr ⟨List.mem_of_getElem? (i := 200) rfl, rfl⟩
theorem q_201 : (Cond.methodLink "EtchedPlateLaw" (31 : Nat) ({ cls := "EtchedPlate", name := "clean", desc := "()I" } : Jvm.MethodName)) ∈ lw_g := List.mem_filter.mpr ⟨List.mem_of_getElem? (i := 201) rfl, rfl⟩
theorem q_202 : (Cond.instanceMethod ({ cls := "EtchedPlate", name := "clean", desc := "()I" } : Jvm.MethodName)) ∈ lw_g := List.mem_filter.mpr ⟨List.mem_of_getElem? (i := 202) rfl, rfl⟩
theorem q_203 : (Cond.selects "EtchedPlate" ({ cls := "EtchedPlate", name := "clean", desc := "()I" } : Jvm.MethodName) ({ cls := "EtchedPlate", name := "clean", desc := "()I" } : Jvm.MethodName)) ∈ lw_g := List.mem_filter.mpr ⟨List.mem_of_getElem? (i := 203) rfl, rfl⟩
theorem q_204 : (Cond.code ({ cls := "EtchedPlate", name := "clean", desc := "()I" } : Jvm.MethodName) prog_1_method_6_code (2 : Nat) (Option.some Jvm.ClassFile.FieldType.int)) ∈ lw_g := List.mem_filter.mpr ⟨List.mem_of_getElem? (i := 204) rfl, rfl⟩
theorem q_205 : (Cond.methodLink "EtchedPlateLaw" (35 : Nat) ({ cls := "EtchedPlate", name := "burnish", desc := "(II)I" } : Jvm.MethodName)) ∈ lw_g := List.mem_filter.mpr ⟨List.mem_of_getElem? (i := 205) rfl, rfl⟩
theorem q_206 : (Cond.instanceMethod ({ cls := "EtchedPlate", name := "burnish", desc := "(II)I" } : Jvm.MethodName)) ∈ lw_g := List.mem_filter.mpr ⟨List.mem_of_getElem? (i := 206) rfl, rfl⟩
theorem q_207 : (Cond.selects "EtchedPlate" ({ cls := "EtchedPlate", name := "burnish", desc := "(II)I" } : Jvm.MethodName) ({ cls := "EtchedPlate", name := "burnish", desc := "(II)I" } : Jvm.MethodName)) ∈ lw_g := List.mem_filter.mpr ⟨List.mem_of_getElem? (i := 207) rfl, rfl⟩
theorem q_208 : (Cond.code ({ cls := "EtchedPlate", name := "burnish", desc := "(II)I" } : Jvm.MethodName) prog_1_method_7_code (3 : Nat) (Option.some Jvm.ClassFile.FieldType.int)) ∈ lw_g := List.mem_filter.mpr ⟨List.mem_of_getElem? (i := 208) rfl, rfl⟩
theorem q_209 : (Cond.methodLink "EtchedPlate" (70 : Nat) ({ cls := "EtchedPlate", name := "isLine", desc := "(I)Z" } : Jvm.MethodName)) ∈ lw_g := List.mem_filter.mpr ⟨List.mem_of_getElem? (i := 209) rfl, rfl⟩
theorem q_211 : (Cond.instanceMethod ({ cls := "EtchedPlate", name := "isLine", desc := "(I)Z" } : Jvm.MethodName)) ∈ lw_g := List.mem_filter.mpr ⟨List.mem_of_getElem? (i := 211) rfl, rfl⟩
theorem q_212 : (Cond.code ({ cls := "EtchedPlate", name := "isLine", desc := "(I)Z" } : Jvm.MethodName) prog_1_method_33_code (2 : Nat) (Option.some Jvm.ClassFile.FieldType.boolean)) ∈ lw_g := List.mem_filter.mpr ⟨List.mem_of_getElem? (i := 212) rfl, rfl⟩
theorem q_213 : (Cond.methodLink "EtchedPlate" (74 : Nat) ({ cls := "EtchedPlate$Plate", name := "rubDown", desc := "(II)I" } : Jvm.MethodName)) ∈ lw_g := List.mem_filter.mpr ⟨List.mem_of_getElem? (i := 213) rfl, rfl⟩
theorem q_214 : (Cond.instanceMethod ({ cls := "EtchedPlate$Plate", name := "rubDown", desc := "(II)I" } : Jvm.MethodName)) ∈ lw_g := List.mem_filter.mpr ⟨List.mem_of_getElem? (i := 214) rfl, rfl⟩
theorem q_215 : (Cond.selects "EtchedPlate$Plate" ({ cls := "EtchedPlate$Plate", name := "rubDown", desc := "(II)I" } : Jvm.MethodName) ({ cls := "EtchedPlate$Plate", name := "rubDown", desc := "(II)I" } : Jvm.MethodName)) ∈ lw_g := List.mem_filter.mpr ⟨List.mem_of_getElem? (i := 215) rfl, rfl⟩
theorem q_216 : (Cond.code ({ cls := "EtchedPlate$Plate", name := "rubDown", desc := "(II)I" } : Jvm.MethodName) prog_3_method_5_code (3 : Nat) (Option.some Jvm.ClassFile.FieldType.int)) ∈ lw_g := List.mem_filter.mpr ⟨List.mem_of_getElem? (i := 216) rfl, rfl⟩
theorem q_217 : (Cond.methodLink "EtchedPlate$Plate" (57 : Nat) ({ cls := "java/lang/Math", name := "max", desc := "(II)I" } : Jvm.MethodName)) ∈ lw_g := List.mem_filter.mpr ⟨List.mem_of_getElem? (i := 217) rfl, rfl⟩
theorem q_218 : (Cond.static ({ cls := "java/lang/Math", name := "max", desc := "(II)I" } : Jvm.MethodName)) ∈ lw_g := List.mem_filter.mpr ⟨List.mem_of_getElem? (i := 218) rfl, rfl⟩
theorem q_219 : (Cond.code ({ cls := "java/lang/Math", name := "max", desc := "(II)I" } : Jvm.MethodName) prog_8_method_65_code (2 : Nat) (Option.some Jvm.ClassFile.FieldType.int)) ∈ lw_g := List.mem_filter.mpr ⟨List.mem_of_getElem? (i := 219) rfl, rfl⟩
theorem q_220 : (Cond.methodLink "EtchedPlateLaw" (40 : Nat) ({ cls := "EtchedPlate", name := "pull", desc := "()I" } : Jvm.MethodName)) ∈ lw_g := List.mem_filter.mpr ⟨List.mem_of_getElem? (i := 220) rfl, rfl⟩
theorem q_221 : (Cond.instanceMethod ({ cls := "EtchedPlate", name := "pull", desc := "()I" } : Jvm.MethodName)) ∈ lw_g := List.mem_filter.mpr ⟨List.mem_of_getElem? (i := 221) rfl, rfl⟩
theorem q_222 : (Cond.selects "EtchedPlate" ({ cls := "EtchedPlate", name := "pull", desc := "()I" } : Jvm.MethodName) ({ cls := "EtchedPlate", name := "pull", desc := "()I" } : Jvm.MethodName)) ∈ lw_g := List.mem_filter.mpr ⟨List.mem_of_getElem? (i := 222) rfl, rfl⟩
theorem q_223 : (Cond.code ({ cls := "EtchedPlate", name := "pull", desc := "()I" } : Jvm.MethodName) prog_1_method_8_code (1 : Nat) (Option.some Jvm.ClassFile.FieldType.int)) ∈ lw_g := List.mem_filter.mpr ⟨List.mem_of_getElem? (i := 223) rfl, rfl⟩
theorem q_224 : (Cond.methodLink "EtchedPlate" (81 : Nat) ({ cls := "EtchedPlate$Plate", name := "addPrint", desc := "()I" } : Jvm.MethodName)) ∈ lw_g := List.mem_filter.mpr ⟨List.mem_of_getElem? (i := 224) rfl, rfl⟩
theorem q_225 : (Cond.instanceMethod ({ cls := "EtchedPlate$Plate", name := "addPrint", desc := "()I" } : Jvm.MethodName)) ∈ lw_g := List.mem_filter.mpr ⟨List.mem_of_getElem? (i := 225) rfl, rfl⟩
theorem q_226 : (Cond.selects "EtchedPlate$Plate" ({ cls := "EtchedPlate$Plate", name := "addPrint", desc := "()I" } : Jvm.MethodName) ({ cls := "EtchedPlate$Plate", name := "addPrint", desc := "()I" } : Jvm.MethodName)) ∈ lw_g := List.mem_filter.mpr ⟨List.mem_of_getElem? (i := 226) rfl, rfl⟩
theorem q_227 : (Cond.code ({ cls := "EtchedPlate$Plate", name := "addPrint", desc := "()I" } : Jvm.MethodName) prog_3_method_6_code (4 : Nat) (Option.some Jvm.ClassFile.FieldType.int)) ∈ lw_g := List.mem_filter.mpr ⟨List.mem_of_getElem? (i := 227) rfl, rfl⟩
theorem q_228 : (Cond.methodLink "EtchedPlate$Plate" (60 : Nat) ({ cls := "EtchedPlate$Plate", name := "wear", desc := "()V" } : Jvm.MethodName)) ∈ lw_g := List.mem_filter.mpr ⟨List.mem_of_getElem? (i := 228) rfl, rfl⟩
theorem q_230 : (Cond.instanceMethod ({ cls := "EtchedPlate$Plate", name := "wear", desc := "()V" } : Jvm.MethodName)) ∈ lw_g := List.mem_filter.mpr ⟨List.mem_of_getElem? (i := 230) rfl, rfl⟩
theorem q_231 : (Cond.code ({ cls := "EtchedPlate$Plate", name := "wear", desc := "()V" } : Jvm.MethodName) prog_3_method_7_code (2 : Nat) (Option.none : Option Jvm.ClassFile.FieldType)) ∈ lw_g := List.mem_filter.mpr ⟨List.mem_of_getElem? (i := 231) rfl, rfl⟩
theorem q_232 : (Cond.methodLink "EtchedPlateLaw" (44 : Nat) ({ cls := "EtchedPlate", name := "lines", desc := "()I" } : Jvm.MethodName)) ∈ lw_g := List.mem_filter.mpr ⟨List.mem_of_getElem? (i := 232) rfl, rfl⟩
theorem q_233 : (Cond.instanceMethod ({ cls := "EtchedPlate", name := "lines", desc := "()I" } : Jvm.MethodName)) ∈ lw_g := List.mem_filter.mpr ⟨List.mem_of_getElem? (i := 233) rfl, rfl⟩
theorem q_234 : (Cond.selects "EtchedPlate" ({ cls := "EtchedPlate", name := "lines", desc := "()I" } : Jvm.MethodName) ({ cls := "EtchedPlate", name := "lines", desc := "()I" } : Jvm.MethodName)) ∈ lw_g := List.mem_filter.mpr ⟨List.mem_of_getElem? (i := 234) rfl, rfl⟩
theorem q_235 : (Cond.code ({ cls := "EtchedPlate", name := "lines", desc := "()I" } : Jvm.MethodName) prog_1_method_9_code (1 : Nat) (Option.some Jvm.ClassFile.FieldType.int)) ∈ lw_g := List.mem_filter.mpr ⟨List.mem_of_getElem? (i := 235) rfl, rfl⟩
theorem q_236 : (Cond.methodLink "EtchedPlateLaw" (48 : Nat) ({ cls := "EtchedPlate", name := "depth", desc := "(I)I" } : Jvm.MethodName)) ∈ lw_g := List.mem_filter.mpr ⟨List.mem_of_getElem? (i := 236) rfl, rfl⟩
theorem q_237 : (Cond.instanceMethod ({ cls := "EtchedPlate", name := "depth", desc := "(I)I" } : Jvm.MethodName)) ∈ lw_g := List.mem_filter.mpr ⟨List.mem_of_getElem? (i := 237) rfl, rfl⟩
theorem q_238 : (Cond.selects "EtchedPlate" ({ cls := "EtchedPlate", name := "depth", desc := "(I)I" } : Jvm.MethodName) ({ cls := "EtchedPlate", name := "depth", desc := "(I)I" } : Jvm.MethodName)) ∈ lw_g := List.mem_filter.mpr ⟨List.mem_of_getElem? (i := 238) rfl, rfl⟩
theorem q_239 : (Cond.code ({ cls := "EtchedPlate", name := "depth", desc := "(I)I" } : Jvm.MethodName) prog_1_method_10_code (2 : Nat) (Option.some Jvm.ClassFile.FieldType.int)) ∈ lw_g := List.mem_filter.mpr ⟨List.mem_of_getElem? (i := 239) rfl, rfl⟩
theorem q_240 : (Cond.methodLink "EtchedPlateLaw" (52 : Nat) ({ cls := "EtchedPlate", name := "varnished", desc := "()I" } : Jvm.MethodName)) ∈ lw_g := List.mem_filter.mpr ⟨List.mem_of_getElem? (i := 240) rfl, rfl⟩
theorem q_241 : (Cond.instanceMethod ({ cls := "EtchedPlate", name := "varnished", desc := "()I" } : Jvm.MethodName)) ∈ lw_g := List.mem_filter.mpr ⟨List.mem_of_getElem? (i := 241) rfl, rfl⟩
theorem q_242 : (Cond.selects "EtchedPlate" ({ cls := "EtchedPlate", name := "varnished", desc := "()I" } : Jvm.MethodName) ({ cls := "EtchedPlate", name := "varnished", desc := "()I" } : Jvm.MethodName)) ∈ lw_g := List.mem_filter.mpr ⟨List.mem_of_getElem? (i := 242) rfl, rfl⟩
theorem q_243 : (Cond.code ({ cls := "EtchedPlate", name := "varnished", desc := "()I" } : Jvm.MethodName) prog_1_method_11_code (1 : Nat) (Option.some Jvm.ClassFile.FieldType.int)) ∈ lw_g := List.mem_filter.mpr ⟨List.mem_of_getElem? (i := 243) rfl, rfl⟩
theorem q_244 : (Cond.methodLink "EtchedPlateLaw" (56 : Nat) ({ cls := "EtchedPlate", name := "meanDepthBits", desc := "()I" } : Jvm.MethodName)) ∈ lw_g := List.mem_filter.mpr ⟨List.mem_of_getElem? (i := 244) rfl, rfl⟩
theorem q_245 : (Cond.instanceMethod ({ cls := "EtchedPlate", name := "meanDepthBits", desc := "()I" } : Jvm.MethodName)) ∈ lw_g := List.mem_filter.mpr ⟨List.mem_of_getElem? (i := 245) rfl, rfl⟩
theorem q_246 : (Cond.selects "EtchedPlate" ({ cls := "EtchedPlate", name := "meanDepthBits", desc := "()I" } : Jvm.MethodName) ({ cls := "EtchedPlate", name := "meanDepthBits", desc := "()I" } : Jvm.MethodName)) ∈ lw_g := List.mem_filter.mpr ⟨List.mem_of_getElem? (i := 246) rfl, rfl⟩
theorem q_247 : (Cond.code ({ cls := "EtchedPlate", name := "meanDepthBits", desc := "()I" } : Jvm.MethodName) prog_1_method_12_code (2 : Nat) (Option.some Jvm.ClassFile.FieldType.int)) ∈ lw_g := List.mem_filter.mpr ⟨List.mem_of_getElem? (i := 247) rfl, rfl⟩
theorem q_248 : (Cond.methodLink "EtchedPlate" (87 : Nat) ({ cls := "EtchedPlate$Plate", name := "depthSum", desc := "()I" } : Jvm.MethodName)) ∈ lw_g := List.mem_filter.mpr ⟨List.mem_of_getElem? (i := 248) rfl, rfl⟩
theorem q_249 : (Cond.instanceMethod ({ cls := "EtchedPlate$Plate", name := "depthSum", desc := "()I" } : Jvm.MethodName)) ∈ lw_g := List.mem_filter.mpr ⟨List.mem_of_getElem? (i := 249) rfl, rfl⟩
theorem q_250 : (Cond.selects "EtchedPlate$Plate" ({ cls := "EtchedPlate$Plate", name := "depthSum", desc := "()I" } : Jvm.MethodName) ({ cls := "EtchedPlate$Plate", name := "depthSum", desc := "()I" } : Jvm.MethodName)) ∈ lw_g := List.mem_filter.mpr ⟨List.mem_of_getElem? (i := 250) rfl, rfl⟩
theorem q_251 : (Cond.code ({ cls := "EtchedPlate$Plate", name := "depthSum", desc := "()I" } : Jvm.MethodName) prog_3_method_8_code (3 : Nat) (Option.some Jvm.ClassFile.FieldType.int)) ∈ lw_g := List.mem_filter.mpr ⟨List.mem_of_getElem? (i := 251) rfl, rfl⟩
theorem q_252 : (Cond.methodLink "EtchedPlate" (90 : Nat) ({ cls := "EtchedPlate", name := "bitsOf", desc := "(F)I" } : Jvm.MethodName)) ∈ lw_g := List.mem_filter.mpr ⟨List.mem_of_getElem? (i := 252) rfl, rfl⟩
theorem q_253 : (Cond.static ({ cls := "EtchedPlate", name := "bitsOf", desc := "(F)I" } : Jvm.MethodName)) ∈ lw_g := List.mem_filter.mpr ⟨List.mem_of_getElem? (i := 253) rfl, rfl⟩
theorem q_254 : (Cond.code ({ cls := "EtchedPlate", name := "bitsOf", desc := "(F)I" } : Jvm.MethodName) prog_1_method_40_code (3 : Nat) (Option.some Jvm.ClassFile.FieldType.int)) ∈ lw_g := List.mem_filter.mpr ⟨List.mem_of_getElem? (i := 254) rfl, rfl⟩
theorem q_255 : (Cond.constantFloat "EtchedPlate" (160 : Nat) (1258291200 : UInt32)) ∈ lw_g := List.mem_filter.mpr ⟨List.mem_of_getElem? (i := 255) rfl, rfl⟩
theorem q_256 : (Cond.methodLink "EtchedPlateLaw" (60 : Nat) ({ cls := "EtchedPlate", name := "prints", desc := "()I" } : Jvm.MethodName)) ∈ lw_g := List.mem_filter.mpr ⟨List.mem_of_getElem? (i := 256) rfl, rfl⟩
theorem q_257 : (Cond.instanceMethod ({ cls := "EtchedPlate", name := "prints", desc := "()I" } : Jvm.MethodName)) ∈ lw_g := List.mem_filter.mpr ⟨List.mem_of_getElem? (i := 257) rfl, rfl⟩
theorem q_258 : (Cond.selects "EtchedPlate" ({ cls := "EtchedPlate", name := "prints", desc := "()I" } : Jvm.MethodName) ({ cls := "EtchedPlate", name := "prints", desc := "()I" } : Jvm.MethodName)) ∈ lw_g := List.mem_filter.mpr ⟨List.mem_of_getElem? (i := 258) rfl, rfl⟩
theorem q_259 : (Cond.code ({ cls := "EtchedPlate", name := "prints", desc := "()I" } : Jvm.MethodName) prog_1_method_13_code (1 : Nat) (Option.some Jvm.ClassFile.FieldType.int)) ∈ lw_g := List.mem_filter.mpr ⟨List.mem_of_getElem? (i := 259) rfl, rfl⟩
theorem q_260 : (Cond.methodLink "EtchedPlateLaw" (64 : Nat) ({ cls := "EtchedPlate", name := "stateOf", desc := "(I)I" } : Jvm.MethodName)) ∈ lw_g := List.mem_filter.mpr ⟨List.mem_of_getElem? (i := 260) rfl, rfl⟩
theorem q_261 : (Cond.instanceMethod ({ cls := "EtchedPlate", name := "stateOf", desc := "(I)I" } : Jvm.MethodName)) ∈ lw_g := List.mem_filter.mpr ⟨List.mem_of_getElem? (i := 261) rfl, rfl⟩
theorem q_262 : (Cond.selects "EtchedPlate" ({ cls := "EtchedPlate", name := "stateOf", desc := "(I)I" } : Jvm.MethodName) ({ cls := "EtchedPlate", name := "stateOf", desc := "(I)I" } : Jvm.MethodName)) ∈ lw_g := List.mem_filter.mpr ⟨List.mem_of_getElem? (i := 262) rfl, rfl⟩
theorem q_263 : (Cond.code ({ cls := "EtchedPlate", name := "stateOf", desc := "(I)I" } : Jvm.MethodName) prog_1_method_14_code (2 : Nat) (Option.some Jvm.ClassFile.FieldType.int)) ∈ lw_g := List.mem_filter.mpr ⟨List.mem_of_getElem? (i := 263) rfl, rfl⟩
theorem q_264 : (Cond.methodLink "EtchedPlate" (94 : Nat) ({ cls := "EtchedPlate", name := "isPrint", desc := "(I)Z" } : Jvm.MethodName)) ∈ lw_g := List.mem_filter.mpr ⟨List.mem_of_getElem? (i := 264) rfl, rfl⟩
theorem q_266 : (Cond.instanceMethod ({ cls := "EtchedPlate", name := "isPrint", desc := "(I)Z" } : Jvm.MethodName)) ∈ lw_g := List.mem_filter.mpr ⟨List.mem_of_getElem? (i := 266) rfl, rfl⟩
theorem q_267 : (Cond.code ({ cls := "EtchedPlate", name := "isPrint", desc := "(I)Z" } : Jvm.MethodName) prog_1_method_34_code (2 : Nat) (Option.some Jvm.ClassFile.FieldType.boolean)) ∈ lw_g := List.mem_filter.mpr ⟨List.mem_of_getElem? (i := 267) rfl, rfl⟩
theorem q_268 : (Cond.methodLink "EtchedPlateLaw" (68 : Nat) ({ cls := "EtchedPlate", name := "tone", desc := "(II)I" } : Jvm.MethodName)) ∈ lw_g := List.mem_filter.mpr ⟨List.mem_of_getElem? (i := 268) rfl, rfl⟩
theorem q_269 : (Cond.instanceMethod ({ cls := "EtchedPlate", name := "tone", desc := "(II)I" } : Jvm.MethodName)) ∈ lw_g := List.mem_filter.mpr ⟨List.mem_of_getElem? (i := 269) rfl, rfl⟩
theorem q_270 : (Cond.selects "EtchedPlate" ({ cls := "EtchedPlate", name := "tone", desc := "(II)I" } : Jvm.MethodName) ({ cls := "EtchedPlate", name := "tone", desc := "(II)I" } : Jvm.MethodName)) ∈ lw_g := List.mem_filter.mpr ⟨List.mem_of_getElem? (i := 270) rfl, rfl⟩
theorem q_271 : (Cond.code ({ cls := "EtchedPlate", name := "tone", desc := "(II)I" } : Jvm.MethodName) prog_1_method_15_code (3 : Nat) (Option.some Jvm.ClassFile.FieldType.int)) ∈ lw_g := List.mem_filter.mpr ⟨List.mem_of_getElem? (i := 271) rfl, rfl⟩
theorem q_272 : (Cond.methodLink "EtchedPlate" (100 : Nat) ({ cls := "EtchedPlate$Plate", name := "printedTone", desc := "(II)I" } : Jvm.MethodName)) ∈ lw_g := List.mem_filter.mpr ⟨List.mem_of_getElem? (i := 272) rfl, rfl⟩
theorem q_273 : (Cond.instanceMethod ({ cls := "EtchedPlate$Plate", name := "printedTone", desc := "(II)I" } : Jvm.MethodName)) ∈ lw_g := List.mem_filter.mpr ⟨List.mem_of_getElem? (i := 273) rfl, rfl⟩
theorem q_274 : (Cond.selects "EtchedPlate$Plate" ({ cls := "EtchedPlate$Plate", name := "printedTone", desc := "(II)I" } : Jvm.MethodName) ({ cls := "EtchedPlate$Plate", name := "printedTone", desc := "(II)I" } : Jvm.MethodName)) ∈ lw_g := List.mem_filter.mpr ⟨List.mem_of_getElem? (i := 274) rfl, rfl⟩
theorem q_275 : (Cond.code ({ cls := "EtchedPlate$Plate", name := "printedTone", desc := "(II)I" } : Jvm.MethodName) prog_3_method_9_code (3 : Nat) (Option.some Jvm.ClassFile.FieldType.int)) ∈ lw_g := List.mem_filter.mpr ⟨List.mem_of_getElem? (i := 275) rfl, rfl⟩
theorem q_276 : (Cond.methodLink "EtchedPlateLaw" (72 : Nat) ({ cls := "EtchedPlate", name := "mayPrecede", desc := "(II)I" } : Jvm.MethodName)) ∈ lw_g := List.mem_filter.mpr ⟨List.mem_of_getElem? (i := 276) rfl, rfl⟩
theorem q_277 : (Cond.instanceMethod ({ cls := "EtchedPlate", name := "mayPrecede", desc := "(II)I" } : Jvm.MethodName)) ∈ lw_g := List.mem_filter.mpr ⟨List.mem_of_getElem? (i := 277) rfl, rfl⟩
theorem q_278 : (Cond.selects "EtchedPlate" ({ cls := "EtchedPlate", name := "mayPrecede", desc := "(II)I" } : Jvm.MethodName) ({ cls := "EtchedPlate", name := "mayPrecede", desc := "(II)I" } : Jvm.MethodName)) ∈ lw_g := List.mem_filter.mpr ⟨List.mem_of_getElem? (i := 278) rfl, rfl⟩
theorem q_279 : (Cond.code ({ cls := "EtchedPlate", name := "mayPrecede", desc := "(II)I" } : Jvm.MethodName) prog_1_method_16_code (3 : Nat) (Option.some Jvm.ClassFile.FieldType.int)) ∈ lw_g := List.mem_filter.mpr ⟨List.mem_of_getElem? (i := 279) rfl, rfl⟩
theorem q_280 : (Cond.methodLink "EtchedPlate" (103 : Nat) ({ cls := "EtchedPlate$Plate", name := "nowhereDarker", desc := "(II)Z" } : Jvm.MethodName)) ∈ lw_g := List.mem_filter.mpr ⟨List.mem_of_getElem? (i := 280) rfl, rfl⟩
theorem q_281 : (Cond.instanceMethod ({ cls := "EtchedPlate$Plate", name := "nowhereDarker", desc := "(II)Z" } : Jvm.MethodName)) ∈ lw_g := List.mem_filter.mpr ⟨List.mem_of_getElem? (i := 281) rfl, rfl⟩
theorem q_282 : (Cond.selects "EtchedPlate$Plate" ({ cls := "EtchedPlate$Plate", name := "nowhereDarker", desc := "(II)Z" } : Jvm.MethodName) ({ cls := "EtchedPlate$Plate", name := "nowhereDarker", desc := "(II)Z" } : Jvm.MethodName)) ∈ lw_g := List.mem_filter.mpr ⟨List.mem_of_getElem? (i := 282) rfl, rfl⟩
theorem q_283 : (Cond.code ({ cls := "EtchedPlate$Plate", name := "nowhereDarker", desc := "(II)Z" } : Jvm.MethodName) prog_3_method_10_code (4 : Nat) (Option.some Jvm.ClassFile.FieldType.boolean)) ∈ lw_g := List.mem_filter.mpr ⟨List.mem_of_getElem? (i := 283) rfl, rfl⟩
theorem q_284 : (Cond.methodLink "EtchedPlate$Plate" (63 : Nat) ({ cls := "EtchedPlate$Plate", name := "printedTone", desc := "(II)I" } : Jvm.MethodName)) ∈ lw_g := List.mem_filter.mpr ⟨List.mem_of_getElem? (i := 284) rfl, rfl⟩
theorem q_285 : (Cond.methodLink "EtchedPlateLaw" (76 : Nat) ({ cls := "EtchedPlate", name := "orders", desc := "(I)I" } : Jvm.MethodName)) ∈ lw_g := List.mem_filter.mpr ⟨List.mem_of_getElem? (i := 285) rfl, rfl⟩
theorem q_286 : (Cond.instanceMethod ({ cls := "EtchedPlate", name := "orders", desc := "(I)I" } : Jvm.MethodName)) ∈ lw_g := List.mem_filter.mpr ⟨List.mem_of_getElem? (i := 286) rfl, rfl⟩
theorem q_287 : (Cond.selects "EtchedPlate" ({ cls := "EtchedPlate", name := "orders", desc := "(I)I" } : Jvm.MethodName) ({ cls := "EtchedPlate", name := "orders", desc := "(I)I" } : Jvm.MethodName)) ∈ lw_g := List.mem_filter.mpr ⟨List.mem_of_getElem? (i := 287) rfl, rfl⟩
theorem q_288 : (Cond.code ({ cls := "EtchedPlate", name := "orders", desc := "(I)I" } : Jvm.MethodName) prog_1_method_17_code (2 : Nat) (Option.some Jvm.ClassFile.FieldType.int)) ∈ lw_g := List.mem_filter.mpr ⟨List.mem_of_getElem? (i := 288) rfl, rfl⟩
theorem q_289 : (Cond.methodLink "EtchedPlate" (106 : Nat) ({ cls := "EtchedPlate$Plate", name := "countOrders", desc := "(I)I" } : Jvm.MethodName)) ∈ lw_g := List.mem_filter.mpr ⟨List.mem_of_getElem? (i := 289) rfl, rfl⟩
theorem q_290 : (Cond.instanceMethod ({ cls := "EtchedPlate$Plate", name := "countOrders", desc := "(I)I" } : Jvm.MethodName)) ∈ lw_g := List.mem_filter.mpr ⟨List.mem_of_getElem? (i := 290) rfl, rfl⟩
theorem q_291 : (Cond.selects "EtchedPlate$Plate" ({ cls := "EtchedPlate$Plate", name := "countOrders", desc := "(I)I" } : Jvm.MethodName) ({ cls := "EtchedPlate$Plate", name := "countOrders", desc := "(I)I" } : Jvm.MethodName)) ∈ lw_g := List.mem_filter.mpr ⟨List.mem_of_getElem? (i := 291) rfl, rfl⟩
theorem q_292 : (Cond.code ({ cls := "EtchedPlate$Plate", name := "countOrders", desc := "(I)I" } : Jvm.MethodName) prog_3_method_11_code (4 : Nat) (Option.some Jvm.ClassFile.FieldType.int)) ∈ lw_g := List.mem_filter.mpr ⟨List.mem_of_getElem? (i := 292) rfl, rfl⟩
theorem q_293 : (Cond.methodLink "EtchedPlate$Plate" (66 : Nat) ({ cls := "EtchedPlate$Plate", name := "placesAmongLikes", desc := "(II)I" } : Jvm.MethodName)) ∈ lw_g := List.mem_filter.mpr ⟨List.mem_of_getElem? (i := 293) rfl, rfl⟩
theorem q_295 : (Cond.instanceMethod ({ cls := "EtchedPlate$Plate", name := "placesAmongLikes", desc := "(II)I" } : Jvm.MethodName)) ∈ lw_g := List.mem_filter.mpr ⟨List.mem_of_getElem? (i := 295) rfl, rfl⟩
theorem q_296 : (Cond.code ({ cls := "EtchedPlate$Plate", name := "placesAmongLikes", desc := "(II)I" } : Jvm.MethodName) prog_3_method_12_code (7 : Nat) (Option.some Jvm.ClassFile.FieldType.int)) ∈ lw_g := List.mem_filter.mpr ⟨List.mem_of_getElem? (i := 296) rfl, rfl⟩
theorem q_297 : (Cond.methodLink "EtchedPlate$Plate" (69 : Nat) ({ cls := "EtchedPlate$Plate", name := "nowhereDarker", desc := "(II)Z" } : Jvm.MethodName)) ∈ lw_g := List.mem_filter.mpr ⟨List.mem_of_getElem? (i := 297) rfl, rfl⟩
theorem q_298 : (Cond.methodLink "EtchedPlateLaw" (80 : Nat) ({ cls := "EtchedPlate", name := "bestState", desc := "()I" } : Jvm.MethodName)) ∈ lw_g := List.mem_filter.mpr ⟨List.mem_of_getElem? (i := 298) rfl, rfl⟩
theorem q_299 : (Cond.instanceMethod ({ cls := "EtchedPlate", name := "bestState", desc := "()I" } : Jvm.MethodName)) ∈ lw_g := List.mem_filter.mpr ⟨List.mem_of_getElem? (i := 299) rfl, rfl⟩
theorem q_300 : (Cond.selects "EtchedPlate" ({ cls := "EtchedPlate", name := "bestState", desc := "()I" } : Jvm.MethodName) ({ cls := "EtchedPlate", name := "bestState", desc := "()I" } : Jvm.MethodName)) ∈ lw_g := List.mem_filter.mpr ⟨List.mem_of_getElem? (i := 300) rfl, rfl⟩
theorem q_301 : (Cond.code ({ cls := "EtchedPlate", name := "bestState", desc := "()I" } : Jvm.MethodName) prog_1_method_18_code (5 : Nat) (Option.some Jvm.ClassFile.FieldType.int)) ∈ lw_g := List.mem_filter.mpr ⟨List.mem_of_getElem? (i := 301) rfl, rfl⟩
theorem q_302 : (Cond.methodLink "EtchedPlate" (109 : Nat) ({ cls := "EtchedPlate$Plate", name := "differenceFrom", desc := "(I[I)I" } : Jvm.MethodName)) ∈ lw_g := List.mem_filter.mpr ⟨List.mem_of_getElem? (i := 302) rfl, rfl⟩
theorem q_303 : (Cond.instanceMethod ({ cls := "EtchedPlate$Plate", name := "differenceFrom", desc := "(I[I)I" } : Jvm.MethodName)) ∈ lw_g := List.mem_filter.mpr ⟨List.mem_of_getElem? (i := 303) rfl, rfl⟩
theorem q_304 : (Cond.selects "EtchedPlate$Plate" ({ cls := "EtchedPlate$Plate", name := "differenceFrom", desc := "(I[I)I" } : Jvm.MethodName) ({ cls := "EtchedPlate$Plate", name := "differenceFrom", desc := "(I[I)I" } : Jvm.MethodName)) ∈ lw_g := List.mem_filter.mpr ⟨List.mem_of_getElem? (i := 304) rfl, rfl⟩
theorem q_305 : (Cond.code ({ cls := "EtchedPlate$Plate", name := "differenceFrom", desc := "(I[I)I" } : Jvm.MethodName) prog_3_method_13_code (5 : Nat) (Option.some Jvm.ClassFile.FieldType.int)) ∈ lw_g := List.mem_filter.mpr ⟨List.mem_of_getElem? (i := 305) rfl, rfl⟩
theorem q_306 : (Cond.methodLink "EtchedPlate$Plate" (72 : Nat) ({ cls := "java/lang/Math", name := "abs", desc := "(I)I" } : Jvm.MethodName)) ∈ lw_g := List.mem_filter.mpr ⟨List.mem_of_getElem? (i := 306) rfl, rfl⟩
theorem q_307 : (Cond.static ({ cls := "java/lang/Math", name := "abs", desc := "(I)I" } : Jvm.MethodName)) ∈ lw_g := List.mem_filter.mpr ⟨List.mem_of_getElem? (i := 307) rfl, rfl⟩
theorem q_308 : (Cond.code ({ cls := "java/lang/Math", name := "abs", desc := "(I)I" } : Jvm.MethodName) prog_8_method_59_code (1 : Nat) (Option.some Jvm.ClassFile.FieldType.int)) ∈ lw_g := List.mem_filter.mpr ⟨List.mem_of_getElem? (i := 308) rfl, rfl⟩
theorem q_309 : (Cond.methodLink "EtchedPlateLaw" (84 : Nat) ({ cls := "EtchedPlate", name := "setTarget", desc := "(II)I" } : Jvm.MethodName)) ∈ lw_g := List.mem_filter.mpr ⟨List.mem_of_getElem? (i := 309) rfl, rfl⟩
theorem q_310 : (Cond.instanceMethod ({ cls := "EtchedPlate", name := "setTarget", desc := "(II)I" } : Jvm.MethodName)) ∈ lw_g := List.mem_filter.mpr ⟨List.mem_of_getElem? (i := 310) rfl, rfl⟩
theorem q_311 : (Cond.selects "EtchedPlate" ({ cls := "EtchedPlate", name := "setTarget", desc := "(II)I" } : Jvm.MethodName) ({ cls := "EtchedPlate", name := "setTarget", desc := "(II)I" } : Jvm.MethodName)) ∈ lw_g := List.mem_filter.mpr ⟨List.mem_of_getElem? (i := 311) rfl, rfl⟩
theorem q_312 : (Cond.code ({ cls := "EtchedPlate", name := "setTarget", desc := "(II)I" } : Jvm.MethodName) prog_1_method_19_code (4 : Nat) (Option.some Jvm.ClassFile.FieldType.int)) ∈ lw_g := List.mem_filter.mpr ⟨List.mem_of_getElem? (i := 312) rfl, rfl⟩
theorem q_313 : (Cond.methodLink "EtchedPlateLaw" (88 : Nat) ({ cls := "EtchedPlate", name := "dips", desc := "()I" } : Jvm.MethodName)) ∈ lw_g := List.mem_filter.mpr ⟨List.mem_of_getElem? (i := 313) rfl, rfl⟩
theorem q_314 : (Cond.instanceMethod ({ cls := "EtchedPlate", name := "dips", desc := "()I" } : Jvm.MethodName)) ∈ lw_g := List.mem_filter.mpr ⟨List.mem_of_getElem? (i := 314) rfl, rfl⟩
theorem q_315 : (Cond.selects "EtchedPlate" ({ cls := "EtchedPlate", name := "dips", desc := "()I" } : Jvm.MethodName) ({ cls := "EtchedPlate", name := "dips", desc := "()I" } : Jvm.MethodName)) ∈ lw_g := List.mem_filter.mpr ⟨List.mem_of_getElem? (i := 315) rfl, rfl⟩
theorem q_316 : (Cond.code ({ cls := "EtchedPlate", name := "dips", desc := "()I" } : Jvm.MethodName) prog_1_method_20_code (1 : Nat) (Option.some Jvm.ClassFile.FieldType.int)) ∈ lw_g := List.mem_filter.mpr ⟨List.mem_of_getElem? (i := 316) rfl, rfl⟩
theorem q_317 : (Cond.methodLink "EtchedPlate" (113 : Nat) ({ cls := "EtchedPlate$Plan", name := "make", desc := "(LEtchedPlate$Plate;[I)V" } : Jvm.MethodName)) ∈ lw_g := List.mem_filter.mpr ⟨List.mem_of_getElem? (i := 317) rfl, rfl⟩
theorem q_318 : (Cond.instanceMethod ({ cls := "EtchedPlate$Plan", name := "make", desc := "(LEtchedPlate$Plate;[I)V" } : Jvm.MethodName)) ∈ lw_g := List.mem_filter.mpr ⟨List.mem_of_getElem? (i := 318) rfl, rfl⟩
theorem q_319 : (Cond.selects "EtchedPlate$Plan" ({ cls := "EtchedPlate$Plan", name := "make", desc := "(LEtchedPlate$Plate;[I)V" } : Jvm.MethodName) ({ cls := "EtchedPlate$Plan", name := "make", desc := "(LEtchedPlate$Plate;[I)V" } : Jvm.MethodName)) ∈ lw_g := List.mem_filter.mpr ⟨List.mem_of_getElem? (i := 319) rfl, rfl⟩
theorem q_320 : (Cond.code ({ cls := "EtchedPlate$Plan", name := "make", desc := "(LEtchedPlate$Plate;[I)V" } : Jvm.MethodName) prog_2_method_2_code (5 : Nat) (Option.none : Option Jvm.ClassFile.FieldType)) ∈ lw_g := List.mem_filter.mpr ⟨List.mem_of_getElem? (i := 320) rfl, rfl⟩
theorem q_321 : (Cond.methodLink "EtchedPlate$Plan" (40 : Nat) ({ cls := "EtchedPlate$Plan", name := "fewestMinutes", desc := "(II)I" } : Jvm.MethodName)) ∈ lw_g := List.mem_filter.mpr ⟨List.mem_of_getElem? (i := 321) rfl, rfl⟩
theorem q_322 : (Cond.static ({ cls := "EtchedPlate$Plan", name := "fewestMinutes", desc := "(II)I" } : Jvm.MethodName)) ∈ lw_g := List.mem_filter.mpr ⟨List.mem_of_getElem? (i := 322) rfl, rfl⟩
theorem q_323 : (Cond.code ({ cls := "EtchedPlate$Plan", name := "fewestMinutes", desc := "(II)I" } : Jvm.MethodName) prog_2_method_3_code (2 : Nat) (Option.some Jvm.ClassFile.FieldType.int)) ∈ lw_g := List.mem_filter.mpr ⟨List.mem_of_getElem? (i := 323) rfl, rfl⟩
theorem q_324 : (Cond.methodLink "EtchedPlate$Plan" (44 : Nat) ({ cls := "EtchedPlate$Plan", name := "mostMinutes", desc := "(II)I" } : Jvm.MethodName)) ∈ lw_g := List.mem_filter.mpr ⟨List.mem_of_getElem? (i := 324) rfl, rfl⟩
theorem q_325 : (Cond.static ({ cls := "EtchedPlate$Plan", name := "mostMinutes", desc := "(II)I" } : Jvm.MethodName)) ∈ lw_g := List.mem_filter.mpr ⟨List.mem_of_getElem? (i := 325) rfl, rfl⟩
theorem q_326 : (Cond.code ({ cls := "EtchedPlate$Plan", name := "mostMinutes", desc := "(II)I" } : Jvm.MethodName) prog_2_method_4_code (2 : Nat) (Option.some Jvm.ClassFile.FieldType.int)) ∈ lw_g := List.mem_filter.mpr ⟨List.mem_of_getElem? (i := 326) rfl, rfl⟩
theorem q_327 : (Cond.methodLink "EtchedPlate$Plan" (50 : Nat) ({ cls := "java/lang/Math", name := "min", desc := "(II)I" } : Jvm.MethodName)) ∈ lw_g := List.mem_filter.mpr ⟨List.mem_of_getElem? (i := 327) rfl, rfl⟩
theorem q_328 : (Cond.methodLink "EtchedPlate$Plan" (47 : Nat) ({ cls := "EtchedPlate$Plan", name := "chooseTotals", desc := "()V" } : Jvm.MethodName)) ∈ lw_g := List.mem_filter.mpr ⟨List.mem_of_getElem? (i := 328) rfl, rfl⟩
theorem q_330 : (Cond.instanceMethod ({ cls := "EtchedPlate$Plan", name := "chooseTotals", desc := "()V" } : Jvm.MethodName)) ∈ lw_g := List.mem_filter.mpr ⟨List.mem_of_getElem? (i := 330) rfl, rfl⟩
theorem q_331 : (Cond.code ({ cls := "EtchedPlate$Plan", name := "chooseTotals", desc := "()V" } : Jvm.MethodName) prog_2_method_5_code (4 : Nat) (Option.none : Option Jvm.ClassFile.FieldType)) ∈ lw_g := List.mem_filter.mpr ⟨List.mem_of_getElem? (i := 331) rfl, rfl⟩
theorem q_332 : (Cond.methodLink "EtchedPlate$Plan" (55 : Nat) ({ cls := "EtchedPlate$Plan", name := "nextTotal", desc := "(I)I" } : Jvm.MethodName)) ∈ lw_g := List.mem_filter.mpr ⟨List.mem_of_getElem? (i := 332) rfl, rfl⟩
theorem q_334 : (Cond.instanceMethod ({ cls := "EtchedPlate$Plan", name := "nextTotal", desc := "(I)I" } : Jvm.MethodName)) ∈ lw_g := List.mem_filter.mpr ⟨List.mem_of_getElem? (i := 334) rfl, rfl⟩
theorem q_335 : (Cond.code ({ cls := "EtchedPlate$Plan", name := "nextTotal", desc := "(I)I" } : Jvm.MethodName) prog_2_method_6_code (4 : Nat) (Option.some Jvm.ClassFile.FieldType.int)) ∈ lw_g := List.mem_filter.mpr ⟨List.mem_of_getElem? (i := 335) rfl, rfl⟩
theorem q_336 : (Cond.methodLink "EtchedPlateLaw" (92 : Nat) ({ cls := "EtchedPlate", name := "dipMinutes", desc := "(I)I" } : Jvm.MethodName)) ∈ lw_g := List.mem_filter.mpr ⟨List.mem_of_getElem? (i := 336) rfl, rfl⟩
theorem q_337 : (Cond.instanceMethod ({ cls := "EtchedPlate", name := "dipMinutes", desc := "(I)I" } : Jvm.MethodName)) ∈ lw_g := List.mem_filter.mpr ⟨List.mem_of_getElem? (i := 337) rfl, rfl⟩
theorem q_338 : (Cond.selects "EtchedPlate" ({ cls := "EtchedPlate", name := "dipMinutes", desc := "(I)I" } : Jvm.MethodName) ({ cls := "EtchedPlate", name := "dipMinutes", desc := "(I)I" } : Jvm.MethodName)) ∈ lw_g := List.mem_filter.mpr ⟨List.mem_of_getElem? (i := 338) rfl, rfl⟩
theorem q_339 : (Cond.code ({ cls := "EtchedPlate", name := "dipMinutes", desc := "(I)I" } : Jvm.MethodName) prog_1_method_21_code (3 : Nat) (Option.some Jvm.ClassFile.FieldType.int)) ∈ lw_g := List.mem_filter.mpr ⟨List.mem_of_getElem? (i := 339) rfl, rfl⟩
theorem q_340 : (Cond.methodLink "EtchedPlate" (123 : Nat) ({ cls := "EtchedPlate", name := "faultOfDip", desc := "(I)I" } : Jvm.MethodName)) ∈ lw_g := List.mem_filter.mpr ⟨List.mem_of_getElem? (i := 340) rfl, rfl⟩
theorem q_342 : (Cond.instanceMethod ({ cls := "EtchedPlate", name := "faultOfDip", desc := "(I)I" } : Jvm.MethodName)) ∈ lw_g := List.mem_filter.mpr ⟨List.mem_of_getElem? (i := 342) rfl, rfl⟩
theorem q_343 : (Cond.code ({ cls := "EtchedPlate", name := "faultOfDip", desc := "(I)I" } : Jvm.MethodName) prog_1_method_32_code (2 : Nat) (Option.some Jvm.ClassFile.FieldType.int)) ∈ lw_g := List.mem_filter.mpr ⟨List.mem_of_getElem? (i := 343) rfl, rfl⟩
theorem q_344 : (Cond.methodLink "EtchedPlate" (126 : Nat) ({ cls := "EtchedPlate$Plan", name := "minutesAt", desc := "(I)I" } : Jvm.MethodName)) ∈ lw_g := List.mem_filter.mpr ⟨List.mem_of_getElem? (i := 344) rfl, rfl⟩
theorem q_345 : (Cond.instanceMethod ({ cls := "EtchedPlate$Plan", name := "minutesAt", desc := "(I)I" } : Jvm.MethodName)) ∈ lw_g := List.mem_filter.mpr ⟨List.mem_of_getElem? (i := 345) rfl, rfl⟩
theorem q_346 : (Cond.selects "EtchedPlate$Plan" ({ cls := "EtchedPlate$Plan", name := "minutesAt", desc := "(I)I" } : Jvm.MethodName) ({ cls := "EtchedPlate$Plan", name := "minutesAt", desc := "(I)I" } : Jvm.MethodName)) ∈ lw_g := List.mem_filter.mpr ⟨List.mem_of_getElem? (i := 346) rfl, rfl⟩
theorem q_347 : (Cond.code ({ cls := "EtchedPlate$Plan", name := "minutesAt", desc := "(I)I" } : Jvm.MethodName) prog_2_method_8_code (2 : Nat) (Option.some Jvm.ClassFile.FieldType.int)) ∈ lw_g := List.mem_filter.mpr ⟨List.mem_of_getElem? (i := 347) rfl, rfl⟩
theorem q_348 : (Cond.methodLink "EtchedPlate$Plan" (59 : Nat) ({ cls := "EtchedPlate$Plan", name := "totalBefore", desc := "(I)I" } : Jvm.MethodName)) ∈ lw_g := List.mem_filter.mpr ⟨List.mem_of_getElem? (i := 348) rfl, rfl⟩
theorem q_350 : (Cond.instanceMethod ({ cls := "EtchedPlate$Plan", name := "totalBefore", desc := "(I)I" } : Jvm.MethodName)) ∈ lw_g := List.mem_filter.mpr ⟨List.mem_of_getElem? (i := 350) rfl, rfl⟩
theorem q_351 : (Cond.code ({ cls := "EtchedPlate$Plan", name := "totalBefore", desc := "(I)I" } : Jvm.MethodName) prog_2_method_7_code (2 : Nat) (Option.some Jvm.ClassFile.FieldType.int)) ∈ lw_g := List.mem_filter.mpr ⟨List.mem_of_getElem? (i := 351) rfl, rfl⟩
theorem q_352 : (Cond.methodLink "EtchedPlateLaw" (96 : Nat) ({ cls := "EtchedPlate", name := "dipVarnish", desc := "(I)I" } : Jvm.MethodName)) ∈ lw_g := List.mem_filter.mpr ⟨List.mem_of_getElem? (i := 352) rfl, rfl⟩
theorem q_353 : (Cond.instanceMethod ({ cls := "EtchedPlate", name := "dipVarnish", desc := "(I)I" } : Jvm.MethodName)) ∈ lw_g := List.mem_filter.mpr ⟨List.mem_of_getElem? (i := 353) rfl, rfl⟩
theorem q_354 : (Cond.selects "EtchedPlate" ({ cls := "EtchedPlate", name := "dipVarnish", desc := "(I)I" } : Jvm.MethodName) ({ cls := "EtchedPlate", name := "dipVarnish", desc := "(I)I" } : Jvm.MethodName)) ∈ lw_g := List.mem_filter.mpr ⟨List.mem_of_getElem? (i := 354) rfl, rfl⟩
theorem q_355 : (Cond.code ({ cls := "EtchedPlate", name := "dipVarnish", desc := "(I)I" } : Jvm.MethodName) prog_1_method_22_code (3 : Nat) (Option.some Jvm.ClassFile.FieldType.int)) ∈ lw_g := List.mem_filter.mpr ⟨List.mem_of_getElem? (i := 355) rfl, rfl⟩
theorem q_356 : (Cond.methodLink "EtchedPlate" (129 : Nat) ({ cls := "EtchedPlate$Plan", name := "finishedBefore", desc := "(I)I" } : Jvm.MethodName)) ∈ lw_g := List.mem_filter.mpr ⟨List.mem_of_getElem? (i := 356) rfl, rfl⟩
theorem q_357 : (Cond.instanceMethod ({ cls := "EtchedPlate$Plan", name := "finishedBefore", desc := "(I)I" } : Jvm.MethodName)) ∈ lw_g := List.mem_filter.mpr ⟨List.mem_of_getElem? (i := 357) rfl, rfl⟩
theorem q_358 : (Cond.selects "EtchedPlate$Plan" ({ cls := "EtchedPlate$Plan", name := "finishedBefore", desc := "(I)I" } : Jvm.MethodName) ({ cls := "EtchedPlate$Plan", name := "finishedBefore", desc := "(I)I" } : Jvm.MethodName)) ∈ lw_g := List.mem_filter.mpr ⟨List.mem_of_getElem? (i := 358) rfl, rfl⟩
theorem q_359 : (Cond.code ({ cls := "EtchedPlate$Plan", name := "finishedBefore", desc := "(I)I" } : Jvm.MethodName) prog_2_method_9_code (5 : Nat) (Option.some Jvm.ClassFile.FieldType.int)) ∈ lw_g := List.mem_filter.mpr ⟨List.mem_of_getElem? (i := 359) rfl, rfl⟩
theorem q_360 : (Cond.methodLink "EtchedPlateLaw" (100 : Nat) ({ cls := "EtchedPlate", name := "obstacles", desc := "()I" } : Jvm.MethodName)) ∈ lw_g := List.mem_filter.mpr ⟨List.mem_of_getElem? (i := 360) rfl, rfl⟩
theorem q_361 : (Cond.instanceMethod ({ cls := "EtchedPlate", name := "obstacles", desc := "()I" } : Jvm.MethodName)) ∈ lw_g := List.mem_filter.mpr ⟨List.mem_of_getElem? (i := 361) rfl, rfl⟩
theorem q_362 : (Cond.selects "EtchedPlate" ({ cls := "EtchedPlate", name := "obstacles", desc := "()I" } : Jvm.MethodName) ({ cls := "EtchedPlate", name := "obstacles", desc := "()I" } : Jvm.MethodName)) ∈ lw_g := List.mem_filter.mpr ⟨List.mem_of_getElem? (i := 362) rfl, rfl⟩
theorem q_363 : (Cond.code ({ cls := "EtchedPlate", name := "obstacles", desc := "()I" } : Jvm.MethodName) prog_1_method_23_code (1 : Nat) (Option.some Jvm.ClassFile.FieldType.int)) ∈ lw_g := List.mem_filter.mpr ⟨List.mem_of_getElem? (i := 363) rfl, rfl⟩
theorem q_364 : (Cond.methodLink "EtchedPlateLaw" (104 : Nat) ({ cls := "EtchedPlate", name := "undo", desc := "()I" } : Jvm.MethodName)) ∈ lw_g := List.mem_filter.mpr ⟨List.mem_of_getElem? (i := 364) rfl, rfl⟩
theorem q_365 : (Cond.instanceMethod ({ cls := "EtchedPlate", name := "undo", desc := "()I" } : Jvm.MethodName)) ∈ lw_g := List.mem_filter.mpr ⟨List.mem_of_getElem? (i := 365) rfl, rfl⟩
theorem q_366 : (Cond.selects "EtchedPlate" ({ cls := "EtchedPlate", name := "undo", desc := "()I" } : Jvm.MethodName) ({ cls := "EtchedPlate", name := "undo", desc := "()I" } : Jvm.MethodName)) ∈ lw_g := List.mem_filter.mpr ⟨List.mem_of_getElem? (i := 366) rfl, rfl⟩
theorem q_367 : (Cond.code ({ cls := "EtchedPlate", name := "undo", desc := "()I" } : Jvm.MethodName) prog_1_method_24_code (1 : Nat) (Option.some Jvm.ClassFile.FieldType.int)) ∈ lw_g := List.mem_filter.mpr ⟨List.mem_of_getElem? (i := 367) rfl, rfl⟩
theorem q_368 : (Cond.methodLink "EtchedPlateLaw" (108 : Nat) ({ cls := "EtchedPlate", name := "errorCount", desc := "(I)I" } : Jvm.MethodName)) ∈ lw_g := List.mem_filter.mpr ⟨List.mem_of_getElem? (i := 368) rfl, rfl⟩
theorem q_369 : (Cond.instanceMethod ({ cls := "EtchedPlate", name := "errorCount", desc := "(I)I" } : Jvm.MethodName)) ∈ lw_g := List.mem_filter.mpr ⟨List.mem_of_getElem? (i := 369) rfl, rfl⟩
theorem q_370 : (Cond.selects "EtchedPlate" ({ cls := "EtchedPlate", name := "errorCount", desc := "(I)I" } : Jvm.MethodName) ({ cls := "EtchedPlate", name := "errorCount", desc := "(I)I" } : Jvm.MethodName)) ∈ lw_g := List.mem_filter.mpr ⟨List.mem_of_getElem? (i := 370) rfl, rfl⟩
theorem q_371 : (Cond.code ({ cls := "EtchedPlate", name := "errorCount", desc := "(I)I" } : Jvm.MethodName) prog_1_method_25_code (2 : Nat) (Option.some Jvm.ClassFile.FieldType.int)) ∈ lw_g := List.mem_filter.mpr ⟨List.mem_of_getElem? (i := 371) rfl, rfl⟩
theorem q_372 : (Cond.methodLink "EtchedPlateLaw" (112 : Nat) ({ cls := "EtchedPlate", name := "digest", desc := "()J" } : Jvm.MethodName)) ∈ lw_g := List.mem_filter.mpr ⟨List.mem_of_getElem? (i := 372) rfl, rfl⟩
theorem q_373 : (Cond.instanceMethod ({ cls := "EtchedPlate", name := "digest", desc := "()J" } : Jvm.MethodName)) ∈ lw_g := List.mem_filter.mpr ⟨List.mem_of_getElem? (i := 373) rfl, rfl⟩
theorem q_374 : (Cond.selects "EtchedPlate" ({ cls := "EtchedPlate", name := "digest", desc := "()J" } : Jvm.MethodName) ({ cls := "EtchedPlate", name := "digest", desc := "()J" } : Jvm.MethodName)) ∈ lw_g := List.mem_filter.mpr ⟨List.mem_of_getElem? (i := 374) rfl, rfl⟩
theorem q_375 : (Cond.code ({ cls := "EtchedPlate", name := "digest", desc := "()J" } : Jvm.MethodName) prog_1_method_26_code (4 : Nat) (Option.some Jvm.ClassFile.FieldType.long)) ∈ lw_g := List.mem_filter.mpr ⟨List.mem_of_getElem? (i := 375) rfl, rfl⟩
theorem q_376 : (Cond.constantLong "EtchedPlate" (136 : Nat) (2689 : Int64)) ∈ lw_g := List.mem_filter.mpr ⟨List.mem_of_getElem? (i := 376) rfl, rfl⟩
theorem q_377 : (Cond.methodLink "EtchedPlate" (138 : Nat) ({ cls := "EtchedPlate", name := "mix", desc := "(JI)J" } : Jvm.MethodName)) ∈ lw_g := List.mem_filter.mpr ⟨List.mem_of_getElem? (i := 377) rfl, rfl⟩
theorem q_378 : (Cond.static ({ cls := "EtchedPlate", name := "mix", desc := "(JI)J" } : Jvm.MethodName)) ∈ lw_g := List.mem_filter.mpr ⟨List.mem_of_getElem? (i := 378) rfl, rfl⟩
theorem q_379 : (Cond.code ({ cls := "EtchedPlate", name := "mix", desc := "(JI)J" } : Jvm.MethodName) prog_1_method_27_code (3 : Nat) (Option.some Jvm.ClassFile.FieldType.long)) ∈ lw_g := List.mem_filter.mpr ⟨List.mem_of_getElem? (i := 379) rfl, rfl⟩
theorem q_380 : (Cond.constantLong "EtchedPlate" (155 : Nat) (31 : Int64)) ∈ lw_g := List.mem_filter.mpr ⟨List.mem_of_getElem? (i := 380) rfl, rfl⟩
theorem q_381 : (Cond.methodLink "EtchedPlate" (142 : Nat) ({ cls := "EtchedPlate", name := "mixLines", desc := "(J)J" } : Jvm.MethodName)) ∈ lw_g := List.mem_filter.mpr ⟨List.mem_of_getElem? (i := 381) rfl, rfl⟩
theorem q_383 : (Cond.instanceMethod ({ cls := "EtchedPlate", name := "mixLines", desc := "(J)J" } : Jvm.MethodName)) ∈ lw_g := List.mem_filter.mpr ⟨List.mem_of_getElem? (i := 383) rfl, rfl⟩
theorem q_384 : (Cond.code ({ cls := "EtchedPlate", name := "mixLines", desc := "(J)J" } : Jvm.MethodName) prog_1_method_28_code (6 : Nat) (Option.some Jvm.ClassFile.FieldType.long)) ∈ lw_g := List.mem_filter.mpr ⟨List.mem_of_getElem? (i := 384) rfl, rfl⟩
theorem q_385 : (Cond.methodLink "EtchedPlate" (146 : Nat) ({ cls := "EtchedPlate", name := "mixPrints", desc := "(J)J" } : Jvm.MethodName)) ∈ lw_g := List.mem_filter.mpr ⟨List.mem_of_getElem? (i := 385) rfl, rfl⟩
theorem q_387 : (Cond.instanceMethod ({ cls := "EtchedPlate", name := "mixPrints", desc := "(J)J" } : Jvm.MethodName)) ∈ lw_g := List.mem_filter.mpr ⟨List.mem_of_getElem? (i := 387) rfl, rfl⟩
theorem q_388 : (Cond.code ({ cls := "EtchedPlate", name := "mixPrints", desc := "(J)J" } : Jvm.MethodName) prog_1_method_29_code (7 : Nat) (Option.some Jvm.ClassFile.FieldType.long)) ∈ lw_g := List.mem_filter.mpr ⟨List.mem_of_getElem? (i := 388) rfl, rfl⟩
theorem q_389 : (Cond.methodLink "EtchedPlate" (149 : Nat) ({ cls := "EtchedPlate", name := "mixPlan", desc := "(J)J" } : Jvm.MethodName)) ∈ lw_g := List.mem_filter.mpr ⟨List.mem_of_getElem? (i := 389) rfl, rfl⟩
theorem q_391 : (Cond.instanceMethod ({ cls := "EtchedPlate", name := "mixPlan", desc := "(J)J" } : Jvm.MethodName)) ∈ lw_g := List.mem_filter.mpr ⟨List.mem_of_getElem? (i := 391) rfl, rfl⟩
theorem q_392 : (Cond.code ({ cls := "EtchedPlate", name := "mixPlan", desc := "(J)J" } : Jvm.MethodName) prog_1_method_30_code (6 : Nat) (Option.some Jvm.ClassFile.FieldType.long)) ∈ lw_g := List.mem_filter.mpr ⟨List.mem_of_getElem? (i := 392) rfl, rfl⟩
theorem q_393 : (Cond.classLink "EtchedPlateLaw" (10 : Nat) "EtchedPlateModel") ∈ lw_g := List.mem_filter.mpr ⟨List.mem_of_getElem? (i := 393) rfl, rfl⟩
theorem q_394 : (Cond.instantiable "EtchedPlateModel" (11 : Nat)) ∈ lw_g := List.mem_filter.mpr ⟨List.mem_of_getElem? (i := 394) rfl, rfl⟩
theorem q_395 : (Cond.methodLink "EtchedPlateLaw" (12 : Nat) ({ cls := "EtchedPlateModel", name := "<init>", desc := "()V" } : Jvm.MethodName)) ∈ lw_g := List.mem_filter.mpr ⟨List.mem_of_getElem? (i := 395) rfl, rfl⟩
theorem q_396 : (Cond.instanceMethod ({ cls := "EtchedPlateModel", name := "<init>", desc := "()V" } : Jvm.MethodName)) ∈ lw_g := List.mem_filter.mpr ⟨List.mem_of_getElem? (i := 396) rfl, rfl⟩
theorem q_397 : (Cond.code ({ cls := "EtchedPlateModel", name := "<init>", desc := "()V" } : Jvm.MethodName) prog_5_method_1_code (1 : Nat) (Option.none : Option Jvm.ClassFile.FieldType)) ∈ lw_g := List.mem_filter.mpr ⟨List.mem_of_getElem? (i := 397) rfl, rfl⟩
theorem q_398 : (Cond.methodLink "EtchedPlateModel" (1 : Nat) ({ cls := "java/lang/Object", name := "<init>", desc := "()V" } : Jvm.MethodName)) ∈ lw_g := List.mem_filter.mpr ⟨List.mem_of_getElem? (i := 398) rfl, rfl⟩
theorem q_399 : (Cond.fieldLink "EtchedPlateModel" (7 : Nat) "EtchedPlateModel" "now" "[I") ∈ lw_g := List.mem_filter.mpr ⟨List.mem_of_getElem? (i := 399) rfl, rfl⟩
set_option maxRecDepth 8000 in
theorem q_400 : (Cond.fieldLink "EtchedPlateModel" (13 : Nat) "EtchedPlateModel" "past" "[I") ∈ lw_g := List.mem_filter.mpr ⟨List.mem_of_getElem? (i := 400) rfl, rfl⟩
set_option maxRecDepth 8000 in
theorem q_401 : (Cond.fieldLink "EtchedPlateModel" (38 : Nat) "EtchedPlateModel" "saved" "I") ∈ lw_g := List.mem_filter.mpr ⟨List.mem_of_getElem? (i := 401) rfl, rfl⟩
set_option maxRecDepth 8000 in
theorem q_402 : (Cond.fieldLink "EtchedPlateModel" (16 : Nat) "EtchedPlateModel" "errors" "[I") ∈ lw_g := List.mem_filter.mpr ⟨List.mem_of_getElem? (i := 402) rfl, rfl⟩
set_option maxRecDepth 8000 in
theorem q_403 : (Cond.fieldLink "EtchedPlateModel" (19 : Nat) "EtchedPlateModel" "target" "[I") ∈ lw_g := List.mem_filter.mpr ⟨List.mem_of_getElem? (i := 403) rfl, rfl⟩
set_option maxRecDepth 8000 in
theorem q_404 : (Cond.fieldLink "EtchedPlateModel" (22 : Nat) "EtchedPlateModel" "ways" "[I") ∈ lw_g := List.mem_filter.mpr ⟨List.mem_of_getElem? (i := 404) rfl, rfl⟩
set_option maxRecDepth 8000 in
theorem q_405 : (Cond.fieldLink "EtchedPlateModel" (25 : Nat) "EtchedPlateModel" "ahead" "[I") ∈ lw_g := List.mem_filter.mpr ⟨List.mem_of_getElem? (i := 405) rfl, rfl⟩
set_option maxRecDepth 8000 in
theorem q_406 : (Cond.fieldLink "EtchedPlateModel" (28 : Nat) "EtchedPlateModel" "totals" "[I") ∈ lw_g := List.mem_filter.mpr ⟨List.mem_of_getElem? (i := 406) rfl, rfl⟩
set_option maxRecDepth 8000 in
theorem q_407 : (Cond.fieldLink "EtchedPlateModel" (31 : Nat) "EtchedPlateModel" "uses" "[I") ∈ lw_g := List.mem_filter.mpr ⟨List.mem_of_getElem? (i := 407) rfl, rfl⟩
set_option maxRecDepth 8000 in
theorem q_408 : (Cond.fieldLink "EtchedPlateModel" (82 : Nat) "EtchedPlateModel" "totalMany" "I") ∈ lw_g := List.mem_filter.mpr ⟨List.mem_of_getElem? (i := 408) rfl, rfl⟩
set_option maxRecDepth 8000 in
theorem q_409 : (Cond.fieldLink "EtchedPlateModel" (106 : Nat) "EtchedPlateModel" "hash" "J") ∈ lw_g := List.mem_filter.mpr ⟨List.mem_of_getElem? (i := 409) rfl, rfl⟩
set_option maxRecDepth 8000 in
theorem q_410 : (Cond.laysFinal "EtchedPlateModel" "EtchedPlateModel" "now" "[I") ∈ lw_g := List.mem_filter.mpr ⟨List.mem_of_getElem? (i := 410) rfl, rfl⟩
set_option maxRecDepth 8000 in
theorem q_412 : (Cond.laysFinal "EtchedPlateModel" "EtchedPlateModel" "past" "[I") ∈ lw_g := List.mem_filter.mpr ⟨List.mem_of_getElem? (i := 412) rfl, rfl⟩
set_option maxRecDepth 8000 in
theorem q_414 : (Cond.lays "EtchedPlateModel" "EtchedPlateModel" "saved" "I") ∈ lw_g := List.mem_filter.mpr ⟨List.mem_of_getElem? (i := 414) rfl, rfl⟩
set_option maxRecDepth 8000 in
theorem q_416 : (Cond.laysFinal "EtchedPlateModel" "EtchedPlateModel" "errors" "[I") ∈ lw_g := List.mem_filter.mpr ⟨List.mem_of_getElem? (i := 416) rfl, rfl⟩
set_option maxRecDepth 8000 in
theorem q_418 : (Cond.laysFinal "EtchedPlateModel" "EtchedPlateModel" "target" "[I") ∈ lw_g := List.mem_filter.mpr ⟨List.mem_of_getElem? (i := 418) rfl, rfl⟩
set_option maxRecDepth 8000 in
theorem q_420 : (Cond.laysFinal "EtchedPlateModel" "EtchedPlateModel" "ways" "[I") ∈ lw_g := List.mem_filter.mpr ⟨List.mem_of_getElem? (i := 420) rfl, rfl⟩
set_option maxRecDepth 8000 in
theorem q_422 : (Cond.laysFinal "EtchedPlateModel" "EtchedPlateModel" "ahead" "[I") ∈ lw_g := List.mem_filter.mpr ⟨List.mem_of_getElem? (i := 422) rfl, rfl⟩
set_option maxRecDepth 8000 in
theorem q_424 : (Cond.laysFinal "EtchedPlateModel" "EtchedPlateModel" "totals" "[I") ∈ lw_g := List.mem_filter.mpr ⟨List.mem_of_getElem? (i := 424) rfl, rfl⟩
set_option maxRecDepth 8000 in
theorem q_426 : (Cond.laysFinal "EtchedPlateModel" "EtchedPlateModel" "uses" "[I") ∈ lw_g := List.mem_filter.mpr ⟨List.mem_of_getElem? (i := 426) rfl, rfl⟩
set_option maxRecDepth 8000 in
theorem q_428 : (Cond.lays "EtchedPlateModel" "EtchedPlateModel" "totalMany" "I") ∈ lw_g := List.mem_filter.mpr ⟨List.mem_of_getElem? (i := 428) rfl, rfl⟩
set_option maxRecDepth 8000 in
theorem q_430 : (Cond.lays "EtchedPlateModel" "EtchedPlateModel" "hash" "J") ∈ lw_g := List.mem_filter.mpr ⟨List.mem_of_getElem? (i := 430) rfl, rfl⟩
set_option maxRecDepth 8000 in
theorem q_433 : (Cond.methodLink "EtchedPlateLaw" (107 : Nat) ({ cls := "EtchedPlateModel", name := "undo", desc := "()I" } : Jvm.MethodName)) ∈ lw_g := List.mem_filter.mpr ⟨List.mem_of_getElem? (i := 433) rfl, rfl⟩
set_option maxRecDepth 8000 in
theorem q_434 : (Cond.instanceMethod ({ cls := "EtchedPlateModel", name := "undo", desc := "()I" } : Jvm.MethodName)) ∈ lw_g := List.mem_filter.mpr ⟨List.mem_of_getElem? (i := 434) rfl, rfl⟩
set_option maxRecDepth 8000 in
theorem q_435 : (Cond.selects "EtchedPlateModel" ({ cls := "EtchedPlateModel", name := "undo", desc := "()I" } : Jvm.MethodName) ({ cls := "EtchedPlateModel", name := "undo", desc := "()I" } : Jvm.MethodName)) ∈ lw_g := List.mem_filter.mpr ⟨List.mem_of_getElem? (i := 435) rfl, rfl⟩
set_option maxRecDepth 8000 in
theorem q_436 : (Cond.code ({ cls := "EtchedPlateModel", name := "undo", desc := "()I" } : Jvm.MethodName) prog_5_method_9_code (2 : Nat) (Option.some Jvm.ClassFile.FieldType.int)) ∈ lw_g := List.mem_filter.mpr ⟨List.mem_of_getElem? (i := 436) rfl, rfl⟩
set_option maxRecDepth 8000 in
theorem q_437 : (Cond.methodLink "EtchedPlateModel" (42 : Nat) ({ cls := "EtchedPlateModel", name := "fails", desc := "(I)I" } : Jvm.MethodName)) ∈ lw_g := List.mem_filter.mpr ⟨List.mem_of_getElem? (i := 437) rfl, rfl⟩
set_option maxRecDepth 8000 in
theorem q_439 : (Cond.instanceMethod ({ cls := "EtchedPlateModel", name := "fails", desc := "(I)I" } : Jvm.MethodName)) ∈ lw_g := List.mem_filter.mpr ⟨List.mem_of_getElem? (i := 439) rfl, rfl⟩
set_option maxRecDepth 8000 in
theorem q_440 : (Cond.code ({ cls := "EtchedPlateModel", name := "fails", desc := "(I)I" } : Jvm.MethodName) prog_5_method_5_code (2 : Nat) (Option.some Jvm.ClassFile.FieldType.int)) ∈ lw_g := List.mem_filter.mpr ⟨List.mem_of_getElem? (i := 440) rfl, rfl⟩
set_option maxRecDepth 8000 in
theorem q_441 : (Cond.methodLink "EtchedPlateLaw" (17 : Nat) ({ cls := "EtchedPlateModel", name := "draw", desc := "()I" } : Jvm.MethodName)) ∈ lw_g := List.mem_filter.mpr ⟨List.mem_of_getElem? (i := 441) rfl, rfl⟩
set_option maxRecDepth 8000 in
theorem q_442 : (Cond.instanceMethod ({ cls := "EtchedPlateModel", name := "draw", desc := "()I" } : Jvm.MethodName)) ∈ lw_g := List.mem_filter.mpr ⟨List.mem_of_getElem? (i := 442) rfl, rfl⟩
set_option maxRecDepth 8000 in
theorem q_443 : (Cond.selects "EtchedPlateModel" ({ cls := "EtchedPlateModel", name := "draw", desc := "()I" } : Jvm.MethodName) ({ cls := "EtchedPlateModel", name := "draw", desc := "()I" } : Jvm.MethodName)) ∈ lw_g := List.mem_filter.mpr ⟨List.mem_of_getElem? (i := 443) rfl, rfl⟩
set_option maxRecDepth 8000 in
theorem q_444 : (Cond.code ({ cls := "EtchedPlateModel", name := "draw", desc := "()I" } : Jvm.MethodName) prog_5_method_10_code (1 : Nat) (Option.some Jvm.ClassFile.FieldType.int)) ∈ lw_g := List.mem_filter.mpr ⟨List.mem_of_getElem? (i := 444) rfl, rfl⟩
set_option maxRecDepth 8000 in
theorem q_445 : (Cond.methodLink "EtchedPlateModel" (46 : Nat) ({ cls := "EtchedPlateModel", name := "saves", desc := "()V" } : Jvm.MethodName)) ∈ lw_g := List.mem_filter.mpr ⟨List.mem_of_getElem? (i := 445) rfl, rfl⟩
set_option maxRecDepth 8000 in
theorem q_447 : (Cond.instanceMethod ({ cls := "EtchedPlateModel", name := "saves", desc := "()V" } : Jvm.MethodName)) ∈ lw_g := List.mem_filter.mpr ⟨List.mem_of_getElem? (i := 447) rfl, rfl⟩
set_option maxRecDepth 8000 in
theorem q_448 : (Cond.code ({ cls := "EtchedPlateModel", name := "saves", desc := "()V" } : Jvm.MethodName) prog_5_method_8_code (2 : Nat) (Option.none : Option Jvm.ClassFile.FieldType)) ∈ lw_g := List.mem_filter.mpr ⟨List.mem_of_getElem? (i := 448) rfl, rfl⟩
set_option maxRecDepth 8000 in
theorem q_449 : (Cond.methodLink "EtchedPlateLaw" (22 : Nat) ({ cls := "EtchedPlateModel", name := "setStrength", desc := "(I)I" } : Jvm.MethodName)) ∈ lw_g := List.mem_filter.mpr ⟨List.mem_of_getElem? (i := 449) rfl, rfl⟩
set_option maxRecDepth 8000 in
theorem q_450 : (Cond.instanceMethod ({ cls := "EtchedPlateModel", name := "setStrength", desc := "(I)I" } : Jvm.MethodName)) ∈ lw_g := List.mem_filter.mpr ⟨List.mem_of_getElem? (i := 450) rfl, rfl⟩
set_option maxRecDepth 8000 in
theorem q_451 : (Cond.selects "EtchedPlateModel" ({ cls := "EtchedPlateModel", name := "setStrength", desc := "(I)I" } : Jvm.MethodName) ({ cls := "EtchedPlateModel", name := "setStrength", desc := "(I)I" } : Jvm.MethodName)) ∈ lw_g := List.mem_filter.mpr ⟨List.mem_of_getElem? (i := 451) rfl, rfl⟩
set_option maxRecDepth 8000 in
theorem q_452 : (Cond.code ({ cls := "EtchedPlateModel", name := "setStrength", desc := "(I)I" } : Jvm.MethodName) prog_5_method_11_code (3 : Nat) (Option.some Jvm.ClassFile.FieldType.int)) ∈ lw_g := List.mem_filter.mpr ⟨List.mem_of_getElem? (i := 452) rfl, rfl⟩
set_option maxRecDepth 8000 in
theorem q_453 : (Cond.methodLink "EtchedPlateModel" (34 : Nat) ({ cls := "EtchedPlateModel", name := "within", desc := "(III)Z" } : Jvm.MethodName)) ∈ lw_g := List.mem_filter.mpr ⟨List.mem_of_getElem? (i := 453) rfl, rfl⟩
set_option maxRecDepth 8000 in
theorem q_454 : (Cond.static ({ cls := "EtchedPlateModel", name := "within", desc := "(III)Z" } : Jvm.MethodName)) ∈ lw_g := List.mem_filter.mpr ⟨List.mem_of_getElem? (i := 454) rfl, rfl⟩
set_option maxRecDepth 8000 in
theorem q_455 : (Cond.code ({ cls := "EtchedPlateModel", name := "within", desc := "(III)Z" } : Jvm.MethodName) prog_5_method_3_code (3 : Nat) (Option.some Jvm.ClassFile.FieldType.boolean)) ∈ lw_g := List.mem_filter.mpr ⟨List.mem_of_getElem? (i := 455) rfl, rfl⟩
set_option maxRecDepth 8000 in
theorem q_456 : (Cond.methodLink "EtchedPlateLaw" (26 : Nat) ({ cls := "EtchedPlateModel", name := "dip", desc := "(I)I" } : Jvm.MethodName)) ∈ lw_g := List.mem_filter.mpr ⟨List.mem_of_getElem? (i := 456) rfl, rfl⟩
set_option maxRecDepth 8000 in
theorem q_457 : (Cond.instanceMethod ({ cls := "EtchedPlateModel", name := "dip", desc := "(I)I" } : Jvm.MethodName)) ∈ lw_g := List.mem_filter.mpr ⟨List.mem_of_getElem? (i := 457) rfl, rfl⟩
set_option maxRecDepth 8000 in
theorem q_458 : (Cond.selects "EtchedPlateModel" ({ cls := "EtchedPlateModel", name := "dip", desc := "(I)I" } : Jvm.MethodName) ({ cls := "EtchedPlateModel", name := "dip", desc := "(I)I" } : Jvm.MethodName)) ∈ lw_g := List.mem_filter.mpr ⟨List.mem_of_getElem? (i := 458) rfl, rfl⟩
set_option maxRecDepth 8000 in
theorem q_459 : (Cond.code ({ cls := "EtchedPlateModel", name := "dip", desc := "(I)I" } : Jvm.MethodName) prog_5_method_12_code (5 : Nat) (Option.some Jvm.ClassFile.FieldType.int)) ∈ lw_g := List.mem_filter.mpr ⟨List.mem_of_getElem? (i := 459) rfl, rfl⟩
set_option maxRecDepth 8000 in
theorem q_460 : (Cond.methodLink "EtchedPlateLaw" (30 : Nat) ({ cls := "EtchedPlateModel", name := "varnish", desc := "(I)I" } : Jvm.MethodName)) ∈ lw_g := List.mem_filter.mpr ⟨List.mem_of_getElem? (i := 460) rfl, rfl⟩
set_option maxRecDepth 8000 in
theorem q_461 : (Cond.instanceMethod ({ cls := "EtchedPlateModel", name := "varnish", desc := "(I)I" } : Jvm.MethodName)) ∈ lw_g := List.mem_filter.mpr ⟨List.mem_of_getElem? (i := 461) rfl, rfl⟩
set_option maxRecDepth 8000 in
theorem q_462 : (Cond.selects "EtchedPlateModel" ({ cls := "EtchedPlateModel", name := "varnish", desc := "(I)I" } : Jvm.MethodName) ({ cls := "EtchedPlateModel", name := "varnish", desc := "(I)I" } : Jvm.MethodName)) ∈ lw_g := List.mem_filter.mpr ⟨List.mem_of_getElem? (i := 462) rfl, rfl⟩
set_option maxRecDepth 8000 in
theorem q_463 : (Cond.code ({ cls := "EtchedPlateModel", name := "varnish", desc := "(I)I" } : Jvm.MethodName) prog_5_method_13_code (2 : Nat) (Option.some Jvm.ClassFile.FieldType.int)) ∈ lw_g := List.mem_filter.mpr ⟨List.mem_of_getElem? (i := 463) rfl, rfl⟩
set_option maxRecDepth 8000 in
theorem q_464 : (Cond.methodLink "EtchedPlateModel" (49 : Nat) ({ cls := "EtchedPlateModel", name := "ones", desc := "(I)I" } : Jvm.MethodName)) ∈ lw_g := List.mem_filter.mpr ⟨List.mem_of_getElem? (i := 464) rfl, rfl⟩
set_option maxRecDepth 8000 in
theorem q_465 : (Cond.static ({ cls := "EtchedPlateModel", name := "ones", desc := "(I)I" } : Jvm.MethodName)) ∈ lw_g := List.mem_filter.mpr ⟨List.mem_of_getElem? (i := 465) rfl, rfl⟩
set_option maxRecDepth 8000 in
theorem q_466 : (Cond.code ({ cls := "EtchedPlateModel", name := "ones", desc := "(I)I" } : Jvm.MethodName) prog_5_method_4_code (3 : Nat) (Option.some Jvm.ClassFile.FieldType.int)) ∈ lw_g := List.mem_filter.mpr ⟨List.mem_of_getElem? (i := 466) rfl, rfl⟩
set_option maxRecDepth 8000 in
theorem q_467 : (Cond.methodLink "EtchedPlateLaw" (34 : Nat) ({ cls := "EtchedPlateModel", name := "clean", desc := "()I" } : Jvm.MethodName)) ∈ lw_g := List.mem_filter.mpr ⟨List.mem_of_getElem? (i := 467) rfl, rfl⟩
set_option maxRecDepth 8000 in
theorem q_468 : (Cond.instanceMethod ({ cls := "EtchedPlateModel", name := "clean", desc := "()I" } : Jvm.MethodName)) ∈ lw_g := List.mem_filter.mpr ⟨List.mem_of_getElem? (i := 468) rfl, rfl⟩
set_option maxRecDepth 8000 in
theorem q_469 : (Cond.selects "EtchedPlateModel" ({ cls := "EtchedPlateModel", name := "clean", desc := "()I" } : Jvm.MethodName) ({ cls := "EtchedPlateModel", name := "clean", desc := "()I" } : Jvm.MethodName)) ∈ lw_g := List.mem_filter.mpr ⟨List.mem_of_getElem? (i := 469) rfl, rfl⟩
set_option maxRecDepth 8000 in
theorem q_470 : (Cond.code ({ cls := "EtchedPlateModel", name := "clean", desc := "()I" } : Jvm.MethodName) prog_5_method_14_code (2 : Nat) (Option.some Jvm.ClassFile.FieldType.int)) ∈ lw_g := List.mem_filter.mpr ⟨List.mem_of_getElem? (i := 470) rfl, rfl⟩
set_option maxRecDepth 8000 in
theorem q_471 : (Cond.methodLink "EtchedPlateLaw" (39 : Nat) ({ cls := "EtchedPlateModel", name := "burnish", desc := "(II)I" } : Jvm.MethodName)) ∈ lw_g := List.mem_filter.mpr ⟨List.mem_of_getElem? (i := 471) rfl, rfl⟩
set_option maxRecDepth 8000 in
theorem q_472 : (Cond.instanceMethod ({ cls := "EtchedPlateModel", name := "burnish", desc := "(II)I" } : Jvm.MethodName)) ∈ lw_g := List.mem_filter.mpr ⟨List.mem_of_getElem? (i := 472) rfl, rfl⟩
set_option maxRecDepth 8000 in
theorem q_473 : (Cond.selects "EtchedPlateModel" ({ cls := "EtchedPlateModel", name := "burnish", desc := "(II)I" } : Jvm.MethodName) ({ cls := "EtchedPlateModel", name := "burnish", desc := "(II)I" } : Jvm.MethodName)) ∈ lw_g := List.mem_filter.mpr ⟨List.mem_of_getElem? (i := 473) rfl, rfl⟩
set_option maxRecDepth 8000 in
theorem q_474 : (Cond.code ({ cls := "EtchedPlateModel", name := "burnish", desc := "(II)I" } : Jvm.MethodName) prog_5_method_15_code (3 : Nat) (Option.some Jvm.ClassFile.FieldType.int)) ∈ lw_g := List.mem_filter.mpr ⟨List.mem_of_getElem? (i := 474) rfl, rfl⟩
set_option maxRecDepth 8000 in
theorem q_475 : (Cond.methodLink "EtchedPlateModel" (52 : Nat) ({ cls := "EtchedPlateModel", name := "isLine", desc := "(I)Z" } : Jvm.MethodName)) ∈ lw_g := List.mem_filter.mpr ⟨List.mem_of_getElem? (i := 475) rfl, rfl⟩
set_option maxRecDepth 8000 in
theorem q_477 : (Cond.instanceMethod ({ cls := "EtchedPlateModel", name := "isLine", desc := "(I)Z" } : Jvm.MethodName)) ∈ lw_g := List.mem_filter.mpr ⟨List.mem_of_getElem? (i := 477) rfl, rfl⟩
set_option maxRecDepth 8000 in
theorem q_478 : (Cond.code ({ cls := "EtchedPlateModel", name := "isLine", desc := "(I)Z" } : Jvm.MethodName) prog_5_method_6_code (2 : Nat) (Option.some Jvm.ClassFile.FieldType.boolean)) ∈ lw_g := List.mem_filter.mpr ⟨List.mem_of_getElem? (i := 478) rfl, rfl⟩
set_option maxRecDepth 8000 in
theorem q_479 : (Cond.methodLink "EtchedPlateLaw" (43 : Nat) ({ cls := "EtchedPlateModel", name := "pull", desc := "()I" } : Jvm.MethodName)) ∈ lw_g := List.mem_filter.mpr ⟨List.mem_of_getElem? (i := 479) rfl, rfl⟩
set_option maxRecDepth 8000 in
theorem q_480 : (Cond.instanceMethod ({ cls := "EtchedPlateModel", name := "pull", desc := "()I" } : Jvm.MethodName)) ∈ lw_g := List.mem_filter.mpr ⟨List.mem_of_getElem? (i := 480) rfl, rfl⟩
set_option maxRecDepth 8000 in
theorem q_481 : (Cond.selects "EtchedPlateModel" ({ cls := "EtchedPlateModel", name := "pull", desc := "()I" } : Jvm.MethodName) ({ cls := "EtchedPlateModel", name := "pull", desc := "()I" } : Jvm.MethodName)) ∈ lw_g := List.mem_filter.mpr ⟨List.mem_of_getElem? (i := 481) rfl, rfl⟩
set_option maxRecDepth 8000 in
theorem q_482 : (Cond.code ({ cls := "EtchedPlateModel", name := "pull", desc := "()I" } : Jvm.MethodName) prog_5_method_16_code (3 : Nat) (Option.some Jvm.ClassFile.FieldType.int)) ∈ lw_g := List.mem_filter.mpr ⟨List.mem_of_getElem? (i := 482) rfl, rfl⟩
set_option maxRecDepth 8000 in
theorem q_483 : (Cond.methodLink "EtchedPlateLaw" (47 : Nat) ({ cls := "EtchedPlateModel", name := "lines", desc := "()I" } : Jvm.MethodName)) ∈ lw_g := List.mem_filter.mpr ⟨List.mem_of_getElem? (i := 483) rfl, rfl⟩
set_option maxRecDepth 8000 in
theorem q_484 : (Cond.instanceMethod ({ cls := "EtchedPlateModel", name := "lines", desc := "()I" } : Jvm.MethodName)) ∈ lw_g := List.mem_filter.mpr ⟨List.mem_of_getElem? (i := 484) rfl, rfl⟩
set_option maxRecDepth 8000 in
theorem q_485 : (Cond.selects "EtchedPlateModel" ({ cls := "EtchedPlateModel", name := "lines", desc := "()I" } : Jvm.MethodName) ({ cls := "EtchedPlateModel", name := "lines", desc := "()I" } : Jvm.MethodName)) ∈ lw_g := List.mem_filter.mpr ⟨List.mem_of_getElem? (i := 485) rfl, rfl⟩
set_option maxRecDepth 8000 in
theorem q_486 : (Cond.code ({ cls := "EtchedPlateModel", name := "lines", desc := "()I" } : Jvm.MethodName) prog_5_method_17_code (1 : Nat) (Option.some Jvm.ClassFile.FieldType.int)) ∈ lw_g := List.mem_filter.mpr ⟨List.mem_of_getElem? (i := 486) rfl, rfl⟩
set_option maxRecDepth 8000 in
theorem q_487 : (Cond.methodLink "EtchedPlateLaw" (51 : Nat) ({ cls := "EtchedPlateModel", name := "depth", desc := "(I)I" } : Jvm.MethodName)) ∈ lw_g := List.mem_filter.mpr ⟨List.mem_of_getElem? (i := 487) rfl, rfl⟩
set_option maxRecDepth 8000 in
theorem q_488 : (Cond.instanceMethod ({ cls := "EtchedPlateModel", name := "depth", desc := "(I)I" } : Jvm.MethodName)) ∈ lw_g := List.mem_filter.mpr ⟨List.mem_of_getElem? (i := 488) rfl, rfl⟩
set_option maxRecDepth 8000 in
theorem q_489 : (Cond.selects "EtchedPlateModel" ({ cls := "EtchedPlateModel", name := "depth", desc := "(I)I" } : Jvm.MethodName) ({ cls := "EtchedPlateModel", name := "depth", desc := "(I)I" } : Jvm.MethodName)) ∈ lw_g := List.mem_filter.mpr ⟨List.mem_of_getElem? (i := 489) rfl, rfl⟩
set_option maxRecDepth 8000 in
theorem q_490 : (Cond.code ({ cls := "EtchedPlateModel", name := "depth", desc := "(I)I" } : Jvm.MethodName) prog_5_method_18_code (2 : Nat) (Option.some Jvm.ClassFile.FieldType.int)) ∈ lw_g := List.mem_filter.mpr ⟨List.mem_of_getElem? (i := 490) rfl, rfl⟩
set_option maxRecDepth 8000 in
theorem q_491 : (Cond.methodLink "EtchedPlateLaw" (55 : Nat) ({ cls := "EtchedPlateModel", name := "varnished", desc := "()I" } : Jvm.MethodName)) ∈ lw_g := List.mem_filter.mpr ⟨List.mem_of_getElem? (i := 491) rfl, rfl⟩
set_option maxRecDepth 8000 in
theorem q_492 : (Cond.instanceMethod ({ cls := "EtchedPlateModel", name := "varnished", desc := "()I" } : Jvm.MethodName)) ∈ lw_g := List.mem_filter.mpr ⟨List.mem_of_getElem? (i := 492) rfl, rfl⟩
set_option maxRecDepth 8000 in
theorem q_493 : (Cond.selects "EtchedPlateModel" ({ cls := "EtchedPlateModel", name := "varnished", desc := "()I" } : Jvm.MethodName) ({ cls := "EtchedPlateModel", name := "varnished", desc := "()I" } : Jvm.MethodName)) ∈ lw_g := List.mem_filter.mpr ⟨List.mem_of_getElem? (i := 493) rfl, rfl⟩
set_option maxRecDepth 8000 in
theorem q_494 : (Cond.code ({ cls := "EtchedPlateModel", name := "varnished", desc := "()I" } : Jvm.MethodName) prog_5_method_19_code (1 : Nat) (Option.some Jvm.ClassFile.FieldType.int)) ∈ lw_g := List.mem_filter.mpr ⟨List.mem_of_getElem? (i := 494) rfl, rfl⟩
set_option maxRecDepth 8000 in
theorem q_495 : (Cond.methodLink "EtchedPlateLaw" (59 : Nat) ({ cls := "EtchedPlateModel", name := "meanDepthBits", desc := "()I" } : Jvm.MethodName)) ∈ lw_g := List.mem_filter.mpr ⟨List.mem_of_getElem? (i := 495) rfl, rfl⟩
set_option maxRecDepth 8000 in
theorem q_496 : (Cond.instanceMethod ({ cls := "EtchedPlateModel", name := "meanDepthBits", desc := "()I" } : Jvm.MethodName)) ∈ lw_g := List.mem_filter.mpr ⟨List.mem_of_getElem? (i := 496) rfl, rfl⟩
set_option maxRecDepth 8000 in
theorem q_497 : (Cond.selects "EtchedPlateModel" ({ cls := "EtchedPlateModel", name := "meanDepthBits", desc := "()I" } : Jvm.MethodName) ({ cls := "EtchedPlateModel", name := "meanDepthBits", desc := "()I" } : Jvm.MethodName)) ∈ lw_g := List.mem_filter.mpr ⟨List.mem_of_getElem? (i := 497) rfl, rfl⟩
set_option maxRecDepth 8000 in
theorem q_498 : (Cond.code ({ cls := "EtchedPlateModel", name := "meanDepthBits", desc := "()I" } : Jvm.MethodName) prog_5_method_20_code (3 : Nat) (Option.some Jvm.ClassFile.FieldType.int)) ∈ lw_g := List.mem_filter.mpr ⟨List.mem_of_getElem? (i := 498) rfl, rfl⟩
set_option maxRecDepth 8000 in
theorem q_499 : (Cond.methodLink "EtchedPlateModel" (56 : Nat) ({ cls := "java/lang/Float", name := "floatToIntBits", desc := "(F)I" } : Jvm.MethodName)) ∈ lw_g := List.mem_filter.mpr ⟨List.mem_of_getElem? (i := 499) rfl, rfl⟩
set_option maxRecDepth 8000 in
theorem q_500 : (Cond.static ({ cls := "java/lang/Float", name := "floatToIntBits", desc := "(F)I" } : Jvm.MethodName)) ∈ lw_g := List.mem_filter.mpr ⟨List.mem_of_getElem? (i := 500) rfl, rfl⟩
set_option maxRecDepth 8000 in
theorem q_501 : (Cond.code ({ cls := "java/lang/Float", name := "floatToIntBits", desc := "(F)I" } : Jvm.MethodName) prog_6_method_24_code (1 : Nat) (Option.some Jvm.ClassFile.FieldType.int)) ∈ lw_g := List.mem_filter.mpr ⟨List.mem_of_getElem? (i := 501) rfl, rfl⟩
set_option maxRecDepth 8000 in
theorem q_502 : (Cond.methodLink "java/lang/Float" (59 : Nat) ({ cls := "java/lang/Float", name := "isNaN", desc := "(F)Z" } : Jvm.MethodName)) ∈ lw_g := List.mem_filter.mpr ⟨List.mem_of_getElem? (i := 502) rfl, rfl⟩
set_option maxRecDepth 8000 in
theorem q_503 : (Cond.static ({ cls := "java/lang/Float", name := "isNaN", desc := "(F)Z" } : Jvm.MethodName)) ∈ lw_g := List.mem_filter.mpr ⟨List.mem_of_getElem? (i := 503) rfl, rfl⟩
set_option maxRecDepth 8000 in
theorem q_504 : (Cond.code ({ cls := "java/lang/Float", name := "isNaN", desc := "(F)Z" } : Jvm.MethodName) prog_6_method_6_code (1 : Nat) (Option.some Jvm.ClassFile.FieldType.boolean)) ∈ lw_g := List.mem_filter.mpr ⟨List.mem_of_getElem? (i := 504) rfl, rfl⟩
set_option maxRecDepth 8000 in
theorem q_505 : (Cond.methodLink "java/lang/Float" (74 : Nat) ({ cls := "java/lang/Float", name := "floatToRawIntBits", desc := "(F)I" } : Jvm.MethodName)) ∈ lw_g := List.mem_filter.mpr ⟨List.mem_of_getElem? (i := 505) rfl, rfl⟩
set_option maxRecDepth 8000 in
theorem q_506 : (Cond.static ({ cls := "java/lang/Float", name := "floatToRawIntBits", desc := "(F)I" } : Jvm.MethodName)) ∈ lw_g := List.mem_filter.mpr ⟨List.mem_of_getElem? (i := 506) rfl, rfl⟩
set_option maxRecDepth 8000 in
theorem q_507 : (Cond.native ({ cls := "java/lang/Float", name := "floatToRawIntBits", desc := "(F)I" } : Jvm.MethodName)) ∈ lw_g := List.mem_filter.mpr ⟨List.mem_of_getElem? (i := 507) rfl, rfl⟩
set_option maxRecDepth 8000 in
theorem q_508 : (Cond.constant "java/lang/Float" (77 : Nat) (2143289344 : Int32)) ∈ lw_g := List.mem_filter.mpr ⟨List.mem_of_getElem? (i := 508) rfl, rfl⟩
set_option maxRecDepth 8000 in
theorem q_509 : (Cond.methodLink "EtchedPlateLaw" (63 : Nat) ({ cls := "EtchedPlateModel", name := "prints", desc := "()I" } : Jvm.MethodName)) ∈ lw_g := List.mem_filter.mpr ⟨List.mem_of_getElem? (i := 509) rfl, rfl⟩
set_option maxRecDepth 8000 in
theorem q_510 : (Cond.instanceMethod ({ cls := "EtchedPlateModel", name := "prints", desc := "()I" } : Jvm.MethodName)) ∈ lw_g := List.mem_filter.mpr ⟨List.mem_of_getElem? (i := 510) rfl, rfl⟩
set_option maxRecDepth 8000 in
theorem q_511 : (Cond.selects "EtchedPlateModel" ({ cls := "EtchedPlateModel", name := "prints", desc := "()I" } : Jvm.MethodName) ({ cls := "EtchedPlateModel", name := "prints", desc := "()I" } : Jvm.MethodName)) ∈ lw_g := List.mem_filter.mpr ⟨List.mem_of_getElem? (i := 511) rfl, rfl⟩
set_option maxRecDepth 8000 in
theorem q_512 : (Cond.code ({ cls := "EtchedPlateModel", name := "prints", desc := "()I" } : Jvm.MethodName) prog_5_method_21_code (1 : Nat) (Option.some Jvm.ClassFile.FieldType.int)) ∈ lw_g := List.mem_filter.mpr ⟨List.mem_of_getElem? (i := 512) rfl, rfl⟩
set_option maxRecDepth 8000 in
theorem q_513 : (Cond.methodLink "EtchedPlateLaw" (67 : Nat) ({ cls := "EtchedPlateModel", name := "stateOf", desc := "(I)I" } : Jvm.MethodName)) ∈ lw_g := List.mem_filter.mpr ⟨List.mem_of_getElem? (i := 513) rfl, rfl⟩
set_option maxRecDepth 8000 in
theorem q_514 : (Cond.instanceMethod ({ cls := "EtchedPlateModel", name := "stateOf", desc := "(I)I" } : Jvm.MethodName)) ∈ lw_g := List.mem_filter.mpr ⟨List.mem_of_getElem? (i := 514) rfl, rfl⟩
set_option maxRecDepth 8000 in
theorem q_515 : (Cond.selects "EtchedPlateModel" ({ cls := "EtchedPlateModel", name := "stateOf", desc := "(I)I" } : Jvm.MethodName) ({ cls := "EtchedPlateModel", name := "stateOf", desc := "(I)I" } : Jvm.MethodName)) ∈ lw_g := List.mem_filter.mpr ⟨List.mem_of_getElem? (i := 515) rfl, rfl⟩
set_option maxRecDepth 8000 in
theorem q_516 : (Cond.code ({ cls := "EtchedPlateModel", name := "stateOf", desc := "(I)I" } : Jvm.MethodName) prog_5_method_22_code (2 : Nat) (Option.some Jvm.ClassFile.FieldType.int)) ∈ lw_g := List.mem_filter.mpr ⟨List.mem_of_getElem? (i := 516) rfl, rfl⟩
set_option maxRecDepth 8000 in
theorem q_517 : (Cond.methodLink "EtchedPlateModel" (62 : Nat) ({ cls := "EtchedPlateModel", name := "isPrint", desc := "(I)Z" } : Jvm.MethodName)) ∈ lw_g := List.mem_filter.mpr ⟨List.mem_of_getElem? (i := 517) rfl, rfl⟩
set_option maxRecDepth 8000 in
theorem q_519 : (Cond.instanceMethod ({ cls := "EtchedPlateModel", name := "isPrint", desc := "(I)Z" } : Jvm.MethodName)) ∈ lw_g := List.mem_filter.mpr ⟨List.mem_of_getElem? (i := 519) rfl, rfl⟩
set_option maxRecDepth 8000 in
theorem q_520 : (Cond.code ({ cls := "EtchedPlateModel", name := "isPrint", desc := "(I)Z" } : Jvm.MethodName) prog_5_method_7_code (2 : Nat) (Option.some Jvm.ClassFile.FieldType.boolean)) ∈ lw_g := List.mem_filter.mpr ⟨List.mem_of_getElem? (i := 520) rfl, rfl⟩
set_option maxRecDepth 8000 in
theorem q_521 : (Cond.methodLink "EtchedPlateLaw" (71 : Nat) ({ cls := "EtchedPlateModel", name := "tone", desc := "(II)I" } : Jvm.MethodName)) ∈ lw_g := List.mem_filter.mpr ⟨List.mem_of_getElem? (i := 521) rfl, rfl⟩
set_option maxRecDepth 8000 in
theorem q_522 : (Cond.instanceMethod ({ cls := "EtchedPlateModel", name := "tone", desc := "(II)I" } : Jvm.MethodName)) ∈ lw_g := List.mem_filter.mpr ⟨List.mem_of_getElem? (i := 522) rfl, rfl⟩
set_option maxRecDepth 8000 in
theorem q_523 : (Cond.selects "EtchedPlateModel" ({ cls := "EtchedPlateModel", name := "tone", desc := "(II)I" } : Jvm.MethodName) ({ cls := "EtchedPlateModel", name := "tone", desc := "(II)I" } : Jvm.MethodName)) ∈ lw_g := List.mem_filter.mpr ⟨List.mem_of_getElem? (i := 523) rfl, rfl⟩
set_option maxRecDepth 8000 in
theorem q_524 : (Cond.code ({ cls := "EtchedPlateModel", name := "tone", desc := "(II)I" } : Jvm.MethodName) prog_5_method_24_code (3 : Nat) (Option.some Jvm.ClassFile.FieldType.int)) ∈ lw_g := List.mem_filter.mpr ⟨List.mem_of_getElem? (i := 524) rfl, rfl⟩
set_option maxRecDepth 8000 in
theorem q_525 : (Cond.methodLink "EtchedPlateModel" (65 : Nat) ({ cls := "EtchedPlateModel", name := "toneOf", desc := "(II)I" } : Jvm.MethodName)) ∈ lw_g := List.mem_filter.mpr ⟨List.mem_of_getElem? (i := 525) rfl, rfl⟩
set_option maxRecDepth 8000 in
theorem q_527 : (Cond.instanceMethod ({ cls := "EtchedPlateModel", name := "toneOf", desc := "(II)I" } : Jvm.MethodName)) ∈ lw_g := List.mem_filter.mpr ⟨List.mem_of_getElem? (i := 527) rfl, rfl⟩
set_option maxRecDepth 8000 in
theorem q_528 : (Cond.code ({ cls := "EtchedPlateModel", name := "toneOf", desc := "(II)I" } : Jvm.MethodName) prog_5_method_23_code (3 : Nat) (Option.some Jvm.ClassFile.FieldType.int)) ∈ lw_g := List.mem_filter.mpr ⟨List.mem_of_getElem? (i := 528) rfl, rfl⟩
set_option maxRecDepth 8000 in
theorem q_529 : (Cond.methodLink "EtchedPlateLaw" (75 : Nat) ({ cls := "EtchedPlateModel", name := "mayPrecede", desc := "(II)I" } : Jvm.MethodName)) ∈ lw_g := List.mem_filter.mpr ⟨List.mem_of_getElem? (i := 529) rfl, rfl⟩
set_option maxRecDepth 8000 in
theorem q_530 : (Cond.instanceMethod ({ cls := "EtchedPlateModel", name := "mayPrecede", desc := "(II)I" } : Jvm.MethodName)) ∈ lw_g := List.mem_filter.mpr ⟨List.mem_of_getElem? (i := 530) rfl, rfl⟩
set_option maxRecDepth 8000 in
theorem q_531 : (Cond.selects "EtchedPlateModel" ({ cls := "EtchedPlateModel", name := "mayPrecede", desc := "(II)I" } : Jvm.MethodName) ({ cls := "EtchedPlateModel", name := "mayPrecede", desc := "(II)I" } : Jvm.MethodName)) ∈ lw_g := List.mem_filter.mpr ⟨List.mem_of_getElem? (i := 531) rfl, rfl⟩
set_option maxRecDepth 8000 in
theorem q_532 : (Cond.code ({ cls := "EtchedPlateModel", name := "mayPrecede", desc := "(II)I" } : Jvm.MethodName) prog_5_method_26_code (3 : Nat) (Option.some Jvm.ClassFile.FieldType.int)) ∈ lw_g := List.mem_filter.mpr ⟨List.mem_of_getElem? (i := 532) rfl, rfl⟩
set_option maxRecDepth 8000 in
theorem q_533 : (Cond.methodLink "EtchedPlateModel" (69 : Nat) ({ cls := "EtchedPlateModel", name := "may", desc := "(II)Z" } : Jvm.MethodName)) ∈ lw_g := List.mem_filter.mpr ⟨List.mem_of_getElem? (i := 533) rfl, rfl⟩
set_option maxRecDepth 8000 in
theorem q_535 : (Cond.instanceMethod ({ cls := "EtchedPlateModel", name := "may", desc := "(II)Z" } : Jvm.MethodName)) ∈ lw_g := List.mem_filter.mpr ⟨List.mem_of_getElem? (i := 535) rfl, rfl⟩
set_option maxRecDepth 8000 in
theorem q_536 : (Cond.code ({ cls := "EtchedPlateModel", name := "may", desc := "(II)Z" } : Jvm.MethodName) prog_5_method_25_code (5 : Nat) (Option.some Jvm.ClassFile.FieldType.boolean)) ∈ lw_g := List.mem_filter.mpr ⟨List.mem_of_getElem? (i := 536) rfl, rfl⟩
set_option maxRecDepth 8000 in
theorem q_537 : (Cond.methodLink "EtchedPlateLaw" (79 : Nat) ({ cls := "EtchedPlateModel", name := "orders", desc := "(I)I" } : Jvm.MethodName)) ∈ lw_g := List.mem_filter.mpr ⟨List.mem_of_getElem? (i := 537) rfl, rfl⟩
set_option maxRecDepth 8000 in
theorem q_538 : (Cond.instanceMethod ({ cls := "EtchedPlateModel", name := "orders", desc := "(I)I" } : Jvm.MethodName)) ∈ lw_g := List.mem_filter.mpr ⟨List.mem_of_getElem? (i := 538) rfl, rfl⟩
set_option maxRecDepth 8000 in
theorem q_539 : (Cond.selects "EtchedPlateModel" ({ cls := "EtchedPlateModel", name := "orders", desc := "(I)I" } : Jvm.MethodName) ({ cls := "EtchedPlateModel", name := "orders", desc := "(I)I" } : Jvm.MethodName)) ∈ lw_g := List.mem_filter.mpr ⟨List.mem_of_getElem? (i := 539) rfl, rfl⟩
set_option maxRecDepth 8000 in
theorem q_540 : (Cond.code ({ cls := "EtchedPlateModel", name := "orders", desc := "(I)I" } : Jvm.MethodName) prog_5_method_28_code (2 : Nat) (Option.some Jvm.ClassFile.FieldType.int)) ∈ lw_g := List.mem_filter.mpr ⟨List.mem_of_getElem? (i := 540) rfl, rfl⟩
set_option maxRecDepth 8000 in
theorem q_541 : (Cond.methodLink "EtchedPlateModel" (73 : Nat) ({ cls := "EtchedPlateModel", name := "ordersOf", desc := "(I)I" } : Jvm.MethodName)) ∈ lw_g := List.mem_filter.mpr ⟨List.mem_of_getElem? (i := 541) rfl, rfl⟩
set_option maxRecDepth 8000 in
theorem q_543 : (Cond.instanceMethod ({ cls := "EtchedPlateModel", name := "ordersOf", desc := "(I)I" } : Jvm.MethodName)) ∈ lw_g := List.mem_filter.mpr ⟨List.mem_of_getElem? (i := 543) rfl, rfl⟩
set_option maxRecDepth 8000 in
theorem q_544 : (Cond.code ({ cls := "EtchedPlateModel", name := "ordersOf", desc := "(I)I" } : Jvm.MethodName) prog_5_method_27_code (5 : Nat) (Option.some Jvm.ClassFile.FieldType.int)) ∈ lw_g := List.mem_filter.mpr ⟨List.mem_of_getElem? (i := 544) rfl, rfl⟩
set_option maxRecDepth 8000 in
theorem q_545 : (Cond.methodLink "EtchedPlateLaw" (83 : Nat) ({ cls := "EtchedPlateModel", name := "bestState", desc := "()I" } : Jvm.MethodName)) ∈ lw_g := List.mem_filter.mpr ⟨List.mem_of_getElem? (i := 545) rfl, rfl⟩
set_option maxRecDepth 8000 in
theorem q_546 : (Cond.instanceMethod ({ cls := "EtchedPlateModel", name := "bestState", desc := "()I" } : Jvm.MethodName)) ∈ lw_g := List.mem_filter.mpr ⟨List.mem_of_getElem? (i := 546) rfl, rfl⟩
set_option maxRecDepth 8000 in
theorem q_547 : (Cond.selects "EtchedPlateModel" ({ cls := "EtchedPlateModel", name := "bestState", desc := "()I" } : Jvm.MethodName) ({ cls := "EtchedPlateModel", name := "bestState", desc := "()I" } : Jvm.MethodName)) ∈ lw_g := List.mem_filter.mpr ⟨List.mem_of_getElem? (i := 547) rfl, rfl⟩
set_option maxRecDepth 8000 in
theorem q_548 : (Cond.code ({ cls := "EtchedPlateModel", name := "bestState", desc := "()I" } : Jvm.MethodName) prog_5_method_29_code (7 : Nat) (Option.some Jvm.ClassFile.FieldType.int)) ∈ lw_g := List.mem_filter.mpr ⟨List.mem_of_getElem? (i := 548) rfl, rfl⟩
set_option maxRecDepth 8000 in
theorem q_549 : (Cond.methodLink "EtchedPlateLaw" (87 : Nat) ({ cls := "EtchedPlateModel", name := "setTarget", desc := "(II)I" } : Jvm.MethodName)) ∈ lw_g := List.mem_filter.mpr ⟨List.mem_of_getElem? (i := 549) rfl, rfl⟩
set_option maxRecDepth 8000 in
theorem q_550 : (Cond.instanceMethod ({ cls := "EtchedPlateModel", name := "setTarget", desc := "(II)I" } : Jvm.MethodName)) ∈ lw_g := List.mem_filter.mpr ⟨List.mem_of_getElem? (i := 550) rfl, rfl⟩
set_option maxRecDepth 8000 in
theorem q_551 : (Cond.selects "EtchedPlateModel" ({ cls := "EtchedPlateModel", name := "setTarget", desc := "(II)I" } : Jvm.MethodName) ({ cls := "EtchedPlateModel", name := "setTarget", desc := "(II)I" } : Jvm.MethodName)) ∈ lw_g := List.mem_filter.mpr ⟨List.mem_of_getElem? (i := 551) rfl, rfl⟩
set_option maxRecDepth 8000 in
theorem q_552 : (Cond.code ({ cls := "EtchedPlateModel", name := "setTarget", desc := "(II)I" } : Jvm.MethodName) prog_5_method_30_code (4 : Nat) (Option.some Jvm.ClassFile.FieldType.int)) ∈ lw_g := List.mem_filter.mpr ⟨List.mem_of_getElem? (i := 552) rfl, rfl⟩
set_option maxRecDepth 8000 in
theorem q_553 : (Cond.methodLink "EtchedPlateLaw" (91 : Nat) ({ cls := "EtchedPlateModel", name := "dips", desc := "()I" } : Jvm.MethodName)) ∈ lw_g := List.mem_filter.mpr ⟨List.mem_of_getElem? (i := 553) rfl, rfl⟩
set_option maxRecDepth 8000 in
theorem q_554 : (Cond.instanceMethod ({ cls := "EtchedPlateModel", name := "dips", desc := "()I" } : Jvm.MethodName)) ∈ lw_g := List.mem_filter.mpr ⟨List.mem_of_getElem? (i := 554) rfl, rfl⟩
set_option maxRecDepth 8000 in
theorem q_555 : (Cond.selects "EtchedPlateModel" ({ cls := "EtchedPlateModel", name := "dips", desc := "()I" } : Jvm.MethodName) ({ cls := "EtchedPlateModel", name := "dips", desc := "()I" } : Jvm.MethodName)) ∈ lw_g := List.mem_filter.mpr ⟨List.mem_of_getElem? (i := 555) rfl, rfl⟩
set_option maxRecDepth 8000 in
theorem q_556 : (Cond.code ({ cls := "EtchedPlateModel", name := "dips", desc := "()I" } : Jvm.MethodName) prog_5_method_38_code (1 : Nat) (Option.some Jvm.ClassFile.FieldType.int)) ∈ lw_g := List.mem_filter.mpr ⟨List.mem_of_getElem? (i := 556) rfl, rfl⟩
set_option maxRecDepth 8000 in
theorem q_557 : (Cond.methodLink "EtchedPlateModel" (88 : Nat) ({ cls := "EtchedPlateModel", name := "blocked", desc := "()I" } : Jvm.MethodName)) ∈ lw_g := List.mem_filter.mpr ⟨List.mem_of_getElem? (i := 557) rfl, rfl⟩
set_option maxRecDepth 8000 in
theorem q_559 : (Cond.instanceMethod ({ cls := "EtchedPlateModel", name := "blocked", desc := "()I" } : Jvm.MethodName)) ∈ lw_g := List.mem_filter.mpr ⟨List.mem_of_getElem? (i := 559) rfl, rfl⟩
set_option maxRecDepth 8000 in
theorem q_560 : (Cond.code ({ cls := "EtchedPlateModel", name := "blocked", desc := "()I" } : Jvm.MethodName) prog_5_method_33_code (3 : Nat) (Option.some Jvm.ClassFile.FieldType.int)) ∈ lw_g := List.mem_filter.mpr ⟨List.mem_of_getElem? (i := 560) rfl, rfl⟩
set_option maxRecDepth 8000 in
theorem q_561 : (Cond.methodLink "EtchedPlateModel" (79 : Nat) ({ cls := "EtchedPlateModel", name := "greatest", desc := "(I)I" } : Jvm.MethodName)) ∈ lw_g := List.mem_filter.mpr ⟨List.mem_of_getElem? (i := 561) rfl, rfl⟩
set_option maxRecDepth 8000 in
theorem q_563 : (Cond.instanceMethod ({ cls := "EtchedPlateModel", name := "greatest", desc := "(I)I" } : Jvm.MethodName)) ∈ lw_g := List.mem_filter.mpr ⟨List.mem_of_getElem? (i := 563) rfl, rfl⟩
set_option maxRecDepth 8000 in
theorem q_564 : (Cond.code ({ cls := "EtchedPlateModel", name := "greatest", desc := "(I)I" } : Jvm.MethodName) prog_5_method_32_code (3 : Nat) (Option.some Jvm.ClassFile.FieldType.int)) ∈ lw_g := List.mem_filter.mpr ⟨List.mem_of_getElem? (i := 564) rfl, rfl⟩
set_option maxRecDepth 8000 in
theorem q_565 : (Cond.methodLink "EtchedPlateModel" (76 : Nat) ({ cls := "EtchedPlateModel", name := "allows", desc := "(II)Z" } : Jvm.MethodName)) ∈ lw_g := List.mem_filter.mpr ⟨List.mem_of_getElem? (i := 565) rfl, rfl⟩
set_option maxRecDepth 8000 in
theorem q_567 : (Cond.instanceMethod ({ cls := "EtchedPlateModel", name := "allows", desc := "(II)Z" } : Jvm.MethodName)) ∈ lw_g := List.mem_filter.mpr ⟨List.mem_of_getElem? (i := 567) rfl, rfl⟩
set_option maxRecDepth 8000 in
theorem q_568 : (Cond.code ({ cls := "EtchedPlateModel", name := "allows", desc := "(II)Z" } : Jvm.MethodName) prog_5_method_31_code (3 : Nat) (Option.some Jvm.ClassFile.FieldType.boolean)) ∈ lw_g := List.mem_filter.mpr ⟨List.mem_of_getElem? (i := 568) rfl, rfl⟩
set_option maxRecDepth 8000 in
theorem q_569 : (Cond.methodLink "EtchedPlateModel" (92 : Nat) ({ cls := "EtchedPlateModel", name := "plans", desc := "()V" } : Jvm.MethodName)) ∈ lw_g := List.mem_filter.mpr ⟨List.mem_of_getElem? (i := 569) rfl, rfl⟩
set_option maxRecDepth 8000 in
theorem q_571 : (Cond.instanceMethod ({ cls := "EtchedPlateModel", name := "plans", desc := "()V" } : Jvm.MethodName)) ∈ lw_g := List.mem_filter.mpr ⟨List.mem_of_getElem? (i := 571) rfl, rfl⟩
set_option maxRecDepth 8000 in
theorem q_572 : (Cond.code ({ cls := "EtchedPlateModel", name := "plans", desc := "()V" } : Jvm.MethodName) prog_5_method_35_code (3 : Nat) (Option.none : Option Jvm.ClassFile.FieldType)) ∈ lw_g := List.mem_filter.mpr ⟨List.mem_of_getElem? (i := 572) rfl, rfl⟩
set_option maxRecDepth 8000 in
theorem q_573 : (Cond.methodLink "EtchedPlateModel" (85 : Nat) ({ cls := "EtchedPlateModel", name := "usedBy", desc := "(I)I" } : Jvm.MethodName)) ∈ lw_g := List.mem_filter.mpr ⟨List.mem_of_getElem? (i := 573) rfl, rfl⟩
set_option maxRecDepth 8000 in
theorem q_575 : (Cond.instanceMethod ({ cls := "EtchedPlateModel", name := "usedBy", desc := "(I)I" } : Jvm.MethodName)) ∈ lw_g := List.mem_filter.mpr ⟨List.mem_of_getElem? (i := 575) rfl, rfl⟩
set_option maxRecDepth 8000 in
theorem q_576 : (Cond.code ({ cls := "EtchedPlateModel", name := "usedBy", desc := "(I)I" } : Jvm.MethodName) prog_5_method_34_code (3 : Nat) (Option.some Jvm.ClassFile.FieldType.int)) ∈ lw_g := List.mem_filter.mpr ⟨List.mem_of_getElem? (i := 576) rfl, rfl⟩
set_option maxRecDepth 8000 in
theorem q_577 : (Cond.methodLink "EtchedPlateLaw" (95 : Nat) ({ cls := "EtchedPlateModel", name := "dipMinutes", desc := "(I)I" } : Jvm.MethodName)) ∈ lw_g := List.mem_filter.mpr ⟨List.mem_of_getElem? (i := 577) rfl, rfl⟩
set_option maxRecDepth 8000 in
theorem q_578 : (Cond.instanceMethod ({ cls := "EtchedPlateModel", name := "dipMinutes", desc := "(I)I" } : Jvm.MethodName)) ∈ lw_g := List.mem_filter.mpr ⟨List.mem_of_getElem? (i := 578) rfl, rfl⟩
set_option maxRecDepth 8000 in
theorem q_579 : (Cond.selects "EtchedPlateModel" ({ cls := "EtchedPlateModel", name := "dipMinutes", desc := "(I)I" } : Jvm.MethodName) ({ cls := "EtchedPlateModel", name := "dipMinutes", desc := "(I)I" } : Jvm.MethodName)) ∈ lw_g := List.mem_filter.mpr ⟨List.mem_of_getElem? (i := 579) rfl, rfl⟩
set_option maxRecDepth 8000 in
theorem q_580 : (Cond.code ({ cls := "EtchedPlateModel", name := "dipMinutes", desc := "(I)I" } : Jvm.MethodName) prog_5_method_40_code (3 : Nat) (Option.some Jvm.ClassFile.FieldType.int)) ∈ lw_g := List.mem_filter.mpr ⟨List.mem_of_getElem? (i := 580) rfl, rfl⟩
set_option maxRecDepth 8000 in
theorem q_581 : (Cond.methodLink "EtchedPlateModel" (95 : Nat) ({ cls := "EtchedPlateModel", name := "against", desc := "(I)I" } : Jvm.MethodName)) ∈ lw_g := List.mem_filter.mpr ⟨List.mem_of_getElem? (i := 581) rfl, rfl⟩
set_option maxRecDepth 8000 in
theorem q_583 : (Cond.instanceMethod ({ cls := "EtchedPlateModel", name := "against", desc := "(I)I" } : Jvm.MethodName)) ∈ lw_g := List.mem_filter.mpr ⟨List.mem_of_getElem? (i := 583) rfl, rfl⟩
set_option maxRecDepth 8000 in
theorem q_584 : (Cond.code ({ cls := "EtchedPlateModel", name := "against", desc := "(I)I" } : Jvm.MethodName) prog_5_method_39_code (2 : Nat) (Option.some Jvm.ClassFile.FieldType.int)) ∈ lw_g := List.mem_filter.mpr ⟨List.mem_of_getElem? (i := 584) rfl, rfl⟩
set_option maxRecDepth 8000 in
theorem q_585 : (Cond.methodLink "EtchedPlateModel" (98 : Nat) ({ cls := "EtchedPlateModel", name := "minutesOf", desc := "(I)I" } : Jvm.MethodName)) ∈ lw_g := List.mem_filter.mpr ⟨List.mem_of_getElem? (i := 585) rfl, rfl⟩
set_option maxRecDepth 8000 in
theorem q_587 : (Cond.instanceMethod ({ cls := "EtchedPlateModel", name := "minutesOf", desc := "(I)I" } : Jvm.MethodName)) ∈ lw_g := List.mem_filter.mpr ⟨List.mem_of_getElem? (i := 587) rfl, rfl⟩
set_option maxRecDepth 8000 in
theorem q_588 : (Cond.code ({ cls := "EtchedPlateModel", name := "minutesOf", desc := "(I)I" } : Jvm.MethodName) prog_5_method_36_code (2 : Nat) (Option.some Jvm.ClassFile.FieldType.int)) ∈ lw_g := List.mem_filter.mpr ⟨List.mem_of_getElem? (i := 588) rfl, rfl⟩
set_option maxRecDepth 8000 in
theorem q_589 : (Cond.methodLink "EtchedPlateLaw" (99 : Nat) ({ cls := "EtchedPlateModel", name := "dipVarnish", desc := "(I)I" } : Jvm.MethodName)) ∈ lw_g := List.mem_filter.mpr ⟨List.mem_of_getElem? (i := 589) rfl, rfl⟩
set_option maxRecDepth 8000 in
theorem q_590 : (Cond.instanceMethod ({ cls := "EtchedPlateModel", name := "dipVarnish", desc := "(I)I" } : Jvm.MethodName)) ∈ lw_g := List.mem_filter.mpr ⟨List.mem_of_getElem? (i := 590) rfl, rfl⟩
set_option maxRecDepth 8000 in
theorem q_591 : (Cond.selects "EtchedPlateModel" ({ cls := "EtchedPlateModel", name := "dipVarnish", desc := "(I)I" } : Jvm.MethodName) ({ cls := "EtchedPlateModel", name := "dipVarnish", desc := "(I)I" } : Jvm.MethodName)) ∈ lw_g := List.mem_filter.mpr ⟨List.mem_of_getElem? (i := 591) rfl, rfl⟩
set_option maxRecDepth 8000 in
theorem q_592 : (Cond.code ({ cls := "EtchedPlateModel", name := "dipVarnish", desc := "(I)I" } : Jvm.MethodName) prog_5_method_41_code (3 : Nat) (Option.some Jvm.ClassFile.FieldType.int)) ∈ lw_g := List.mem_filter.mpr ⟨List.mem_of_getElem? (i := 592) rfl, rfl⟩
set_option maxRecDepth 8000 in
theorem q_593 : (Cond.methodLink "EtchedPlateModel" (101 : Nat) ({ cls := "EtchedPlateModel", name := "doneBefore", desc := "(I)I" } : Jvm.MethodName)) ∈ lw_g := List.mem_filter.mpr ⟨List.mem_of_getElem? (i := 593) rfl, rfl⟩
set_option maxRecDepth 8000 in
theorem q_595 : (Cond.instanceMethod ({ cls := "EtchedPlateModel", name := "doneBefore", desc := "(I)I" } : Jvm.MethodName)) ∈ lw_g := List.mem_filter.mpr ⟨List.mem_of_getElem? (i := 595) rfl, rfl⟩
set_option maxRecDepth 8000 in
theorem q_596 : (Cond.code ({ cls := "EtchedPlateModel", name := "doneBefore", desc := "(I)I" } : Jvm.MethodName) prog_5_method_37_code (4 : Nat) (Option.some Jvm.ClassFile.FieldType.int)) ∈ lw_g := List.mem_filter.mpr ⟨List.mem_of_getElem? (i := 596) rfl, rfl⟩
set_option maxRecDepth 8000 in
theorem q_597 : (Cond.methodLink "EtchedPlateLaw" (103 : Nat) ({ cls := "EtchedPlateModel", name := "obstacles", desc := "()I" } : Jvm.MethodName)) ∈ lw_g := List.mem_filter.mpr ⟨List.mem_of_getElem? (i := 597) rfl, rfl⟩
set_option maxRecDepth 8000 in
theorem q_598 : (Cond.instanceMethod ({ cls := "EtchedPlateModel", name := "obstacles", desc := "()I" } : Jvm.MethodName)) ∈ lw_g := List.mem_filter.mpr ⟨List.mem_of_getElem? (i := 598) rfl, rfl⟩
set_option maxRecDepth 8000 in
theorem q_599 : (Cond.selects "EtchedPlateModel" ({ cls := "EtchedPlateModel", name := "obstacles", desc := "()I" } : Jvm.MethodName) ({ cls := "EtchedPlateModel", name := "obstacles", desc := "()I" } : Jvm.MethodName)) ∈ lw_g := List.mem_filter.mpr ⟨List.mem_of_getElem? (i := 599) rfl, rfl⟩
set_option maxRecDepth 8000 in
theorem q_600 : (Cond.code ({ cls := "EtchedPlateModel", name := "obstacles", desc := "()I" } : Jvm.MethodName) prog_5_method_42_code (1 : Nat) (Option.some Jvm.ClassFile.FieldType.int)) ∈ lw_g := List.mem_filter.mpr ⟨List.mem_of_getElem? (i := 600) rfl, rfl⟩
set_option maxRecDepth 8000 in
theorem q_601 : (Cond.methodLink "EtchedPlateLaw" (111 : Nat) ({ cls := "EtchedPlateModel", name := "errorCount", desc := "(I)I" } : Jvm.MethodName)) ∈ lw_g := List.mem_filter.mpr ⟨List.mem_of_getElem? (i := 601) rfl, rfl⟩
set_option maxRecDepth 8000 in
theorem q_602 : (Cond.instanceMethod ({ cls := "EtchedPlateModel", name := "errorCount", desc := "(I)I" } : Jvm.MethodName)) ∈ lw_g := List.mem_filter.mpr ⟨List.mem_of_getElem? (i := 602) rfl, rfl⟩
set_option maxRecDepth 8000 in
theorem q_603 : (Cond.selects "EtchedPlateModel" ({ cls := "EtchedPlateModel", name := "errorCount", desc := "(I)I" } : Jvm.MethodName) ({ cls := "EtchedPlateModel", name := "errorCount", desc := "(I)I" } : Jvm.MethodName)) ∈ lw_g := List.mem_filter.mpr ⟨List.mem_of_getElem? (i := 603) rfl, rfl⟩
set_option maxRecDepth 8000 in
theorem q_604 : (Cond.code ({ cls := "EtchedPlateModel", name := "errorCount", desc := "(I)I" } : Jvm.MethodName) prog_5_method_43_code (2 : Nat) (Option.some Jvm.ClassFile.FieldType.int)) ∈ lw_g := List.mem_filter.mpr ⟨List.mem_of_getElem? (i := 604) rfl, rfl⟩
set_option maxRecDepth 8000 in
theorem q_605 : (Cond.methodLink "EtchedPlateLaw" (116 : Nat) ({ cls := "EtchedPlateModel", name := "digest", desc := "()J" } : Jvm.MethodName)) ∈ lw_g := List.mem_filter.mpr ⟨List.mem_of_getElem? (i := 605) rfl, rfl⟩
set_option maxRecDepth 8000 in
theorem q_606 : (Cond.instanceMethod ({ cls := "EtchedPlateModel", name := "digest", desc := "()J" } : Jvm.MethodName)) ∈ lw_g := List.mem_filter.mpr ⟨List.mem_of_getElem? (i := 606) rfl, rfl⟩
set_option maxRecDepth 8000 in
theorem q_607 : (Cond.selects "EtchedPlateModel" ({ cls := "EtchedPlateModel", name := "digest", desc := "()J" } : Jvm.MethodName) ({ cls := "EtchedPlateModel", name := "digest", desc := "()J" } : Jvm.MethodName)) ∈ lw_g := List.mem_filter.mpr ⟨List.mem_of_getElem? (i := 607) rfl, rfl⟩
set_option maxRecDepth 8000 in
theorem q_608 : (Cond.code ({ cls := "EtchedPlateModel", name := "digest", desc := "()J" } : Jvm.MethodName) prog_5_method_47_code (2 : Nat) (Option.some Jvm.ClassFile.FieldType.long)) ∈ lw_g := List.mem_filter.mpr ⟨List.mem_of_getElem? (i := 608) rfl, rfl⟩
set_option maxRecDepth 8000 in
theorem q_609 : (Cond.constantLong "EtchedPlateModel" (114 : Nat) (2689 : Int64)) ∈ lw_g := List.mem_filter.mpr ⟨List.mem_of_getElem? (i := 609) rfl, rfl⟩
set_option maxRecDepth 8000 in
theorem q_610 : (Cond.methodLink "EtchedPlateModel" (110 : Nat) ({ cls := "EtchedPlateModel", name := "mix", desc := "(I)V" } : Jvm.MethodName)) ∈ lw_g := List.mem_filter.mpr ⟨List.mem_of_getElem? (i := 610) rfl, rfl⟩
set_option maxRecDepth 8000 in
theorem q_612 : (Cond.instanceMethod ({ cls := "EtchedPlateModel", name := "mix", desc := "(I)V" } : Jvm.MethodName)) ∈ lw_g := List.mem_filter.mpr ⟨List.mem_of_getElem? (i := 612) rfl, rfl⟩
set_option maxRecDepth 8000 in
theorem q_613 : (Cond.code ({ cls := "EtchedPlateModel", name := "mix", desc := "(I)V" } : Jvm.MethodName) prog_5_method_44_code (2 : Nat) (Option.none : Option Jvm.ClassFile.FieldType)) ∈ lw_g := List.mem_filter.mpr ⟨List.mem_of_getElem? (i := 613) rfl, rfl⟩
set_option maxRecDepth 8000 in
theorem q_614 : (Cond.constantLong "EtchedPlateModel" (104 : Nat) (31 : Int64)) ∈ lw_g := List.mem_filter.mpr ⟨List.mem_of_getElem? (i := 614) rfl, rfl⟩
set_option maxRecDepth 8000 in
theorem q_615 : (Cond.methodLink "EtchedPlateModel" (116 : Nat) ({ cls := "EtchedPlateModel", name := "mixPrints", desc := "()V" } : Jvm.MethodName)) ∈ lw_g := List.mem_filter.mpr ⟨List.mem_of_getElem? (i := 615) rfl, rfl⟩
set_option maxRecDepth 8000 in
theorem q_617 : (Cond.instanceMethod ({ cls := "EtchedPlateModel", name := "mixPrints", desc := "()V" } : Jvm.MethodName)) ∈ lw_g := List.mem_filter.mpr ⟨List.mem_of_getElem? (i := 617) rfl, rfl⟩
set_option maxRecDepth 8000 in
theorem q_618 : (Cond.code ({ cls := "EtchedPlateModel", name := "mixPrints", desc := "()V" } : Jvm.MethodName) prog_5_method_45_code (3 : Nat) (Option.none : Option Jvm.ClassFile.FieldType)) ∈ lw_g := List.mem_filter.mpr ⟨List.mem_of_getElem? (i := 618) rfl, rfl⟩
set_option maxRecDepth 8000 in
theorem q_619 : (Cond.methodLink "EtchedPlateModel" (119 : Nat) ({ cls := "EtchedPlateModel", name := "mixPlan", desc := "()V" } : Jvm.MethodName)) ∈ lw_g := List.mem_filter.mpr ⟨List.mem_of_getElem? (i := 619) rfl, rfl⟩
set_option maxRecDepth 8000 in
theorem q_621 : (Cond.instanceMethod ({ cls := "EtchedPlateModel", name := "mixPlan", desc := "()V" } : Jvm.MethodName)) ∈ lw_g := List.mem_filter.mpr ⟨List.mem_of_getElem? (i := 621) rfl, rfl⟩
set_option maxRecDepth 8000 in
theorem q_622 : (Cond.code ({ cls := "EtchedPlateModel", name := "mixPlan", desc := "()V" } : Jvm.MethodName) prog_5_method_46_code (2 : Nat) (Option.none : Option Jvm.ClassFile.FieldType)) ∈ lw_g := List.mem_filter.mpr ⟨List.mem_of_getElem? (i := 622) rfl, rfl⟩
theorem q_AC : Cond.arrayClass .int ∈ lw_g := q_92
theorem q_OI : Cond.instanceMethod objectInit ∈ lw_g := q_47
theorem q_OC : Cond.code objectInit ⟨#[0xb1]⟩ 1 none ∈ lw_g := q_48
theorem q_MI : Cond.initialized "java/lang/Math" ∈ lw_g := q_38
theorem q_SI : Cond.initialized "java/lang/System" ∈ lw_g := q_37
theorem q_CpN : Cond.native arraycopyName ∈ lw_g := q_162
theorem q_CpS : Cond.static arraycopyName ∈ lw_g := q_161
theorem q_MinS : Cond.static Lib.Math.min.name ∈ lw_g := q_183
theorem q_MinC : Cond.code Lib.Math.min.name Lib.Math.min.code 2 (some .int) ∈ lw_g := q_184
theorem q_MaxS : Cond.static Lib.Math.max.name ∈ lw_g := q_218
theorem q_MaxC : Cond.code Lib.Math.max.name Lib.Math.max.code 2 (some .int) ∈ lw_g := q_219
theorem q_AbsS : Cond.static Lib.Math.abs.name ∈ lw_g := q_307
theorem q_AbsC : Cond.code Lib.Math.abs.name Lib.Math.abs.code 1 (some .int) ∈ lw_g := q_308
-- nest word 0: q_51
-- nest word 1: q_96
-- nest word 2: q_179
-- nest word 3: q_93
