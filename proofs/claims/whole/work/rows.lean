section
-- ===== PART A: goes FIRST, ahead of the names: the tables' words, and 'selects' of the private methods out of them =====
/-- a private method of a class that the tables say can be made, by its rows of tables_1 -/
def lw_okq (q : MethodName × Nat) : Prop := (q.1.cls ≠ "java/lang/invoke/MethodHandle" ∧ q.1.cls ≠ "java/lang/invoke/VarHandle") ∧ Cond.instantiable q.1.cls q.2 ∈ tables_1 ∧ Cond.privateMethod q.1 ∈ tables_1 ∧ Cond.instanceMethod q.1 ∈ tables_1
theorem lw_p0 : lw_okq (⟨"EtchedPlate", "refuse", "(I)I"⟩, 6) := ⟨⟨by decide +kernel, by decide +kernel⟩, List.mem_of_getElem? (i := 10) (by decide +kernel), List.mem_of_getElem? (i := 113) (by decide +kernel), List.mem_of_getElem? (i := 114) (by decide +kernel)⟩
theorem lw_p1 : lw_okq (⟨"EtchedPlate", "save", "()V"⟩, 6) := ⟨⟨by decide +kernel, by decide +kernel⟩, List.mem_of_getElem? (i := 10) (by decide +kernel), List.mem_of_getElem? (i := 117) (by decide +kernel), List.mem_of_getElem? (i := 118) (by decide +kernel)⟩
theorem lw_p2 : lw_okq (⟨"EtchedPlate", "dropOldest", "()V"⟩, 6) := ⟨⟨by decide +kernel, by decide +kernel⟩, List.mem_of_getElem? (i := 10) (by decide +kernel), List.mem_of_getElem? (i := 121) (by decide +kernel), List.mem_of_getElem? (i := 122) (by decide +kernel)⟩
theorem lw_p3 : lw_okq (⟨"EtchedPlate", "isLine", "(I)Z"⟩, 6) := ⟨⟨by decide +kernel, by decide +kernel⟩, List.mem_of_getElem? (i := 10) (by decide +kernel), List.mem_of_getElem? (i := 178) (by decide +kernel), List.mem_of_getElem? (i := 179) (by decide +kernel)⟩
theorem lw_p4 : lw_okq (⟨"EtchedPlate$Plate", "wear", "()V"⟩, 9) := ⟨⟨by decide +kernel, by decide +kernel⟩, List.mem_of_getElem? (i := 18) (by decide +kernel), List.mem_of_getElem? (i := 197) (by decide +kernel), List.mem_of_getElem? (i := 198) (by decide +kernel)⟩
theorem lw_p5 : lw_okq (⟨"EtchedPlate", "isPrint", "(I)Z"⟩, 6) := ⟨⟨by decide +kernel, by decide +kernel⟩, List.mem_of_getElem? (i := 10) (by decide +kernel), List.mem_of_getElem? (i := 233) (by decide +kernel), List.mem_of_getElem? (i := 234) (by decide +kernel)⟩
theorem lw_p6 : lw_okq (⟨"EtchedPlate$Plate", "placesAmongLikes", "(II)I"⟩, 9) := ⟨⟨by decide +kernel, by decide +kernel⟩, List.mem_of_getElem? (i := 18) (by decide +kernel), List.mem_of_getElem? (i := 262) (by decide +kernel), List.mem_of_getElem? (i := 263) (by decide +kernel)⟩
theorem lw_p7 : lw_okq (⟨"EtchedPlate$Plan", "chooseTotals", "()V"⟩, 6) := ⟨⟨by decide +kernel, by decide +kernel⟩, List.mem_of_getElem? (i := 63) (by decide +kernel), List.mem_of_getElem? (i := 297) (by decide +kernel), List.mem_of_getElem? (i := 298) (by decide +kernel)⟩
theorem lw_p8 : lw_okq (⟨"EtchedPlate$Plan", "nextTotal", "(I)I"⟩, 6) := ⟨⟨by decide +kernel, by decide +kernel⟩, List.mem_of_getElem? (i := 63) (by decide +kernel), List.mem_of_getElem? (i := 301) (by decide +kernel), List.mem_of_getElem? (i := 302) (by decide +kernel)⟩
theorem lw_p9 : lw_okq (⟨"EtchedPlate", "faultOfDip", "(I)I"⟩, 6) := ⟨⟨by decide +kernel, by decide +kernel⟩, List.mem_of_getElem? (i := 10) (by decide +kernel), List.mem_of_getElem? (i := 309) (by decide +kernel), List.mem_of_getElem? (i := 310) (by decide +kernel)⟩
theorem lw_p10 : lw_okq (⟨"EtchedPlate$Plan", "totalBefore", "(I)I"⟩, 6) := ⟨⟨by decide +kernel, by decide +kernel⟩, List.mem_of_getElem? (i := 63) (by decide +kernel), List.mem_of_getElem? (i := 317) (by decide +kernel), List.mem_of_getElem? (i := 318) (by decide +kernel)⟩
theorem lw_p11 : lw_okq (⟨"EtchedPlate", "mixLines", "(J)J"⟩, 6) := ⟨⟨by decide +kernel, by decide +kernel⟩, List.mem_of_getElem? (i := 10) (by decide +kernel), List.mem_of_getElem? (i := 350) (by decide +kernel), List.mem_of_getElem? (i := 351) (by decide +kernel)⟩
theorem lw_p12 : lw_okq (⟨"EtchedPlate", "mixPrints", "(J)J"⟩, 6) := ⟨⟨by decide +kernel, by decide +kernel⟩, List.mem_of_getElem? (i := 10) (by decide +kernel), List.mem_of_getElem? (i := 354) (by decide +kernel), List.mem_of_getElem? (i := 355) (by decide +kernel)⟩
theorem lw_p13 : lw_okq (⟨"EtchedPlate", "mixPlan", "(J)J"⟩, 6) := ⟨⟨by decide +kernel, by decide +kernel⟩, List.mem_of_getElem? (i := 10) (by decide +kernel), List.mem_of_getElem? (i := 358) (by decide +kernel), List.mem_of_getElem? (i := 359) (by decide +kernel)⟩
theorem lw_p14 : lw_okq (⟨"EtchedPlateModel", "fails", "(I)I"⟩, 11) := ⟨⟨by decide +kernel, by decide +kernel⟩, List.mem_of_getElem? (i := 362) (by decide +kernel), List.mem_of_getElem? (i := 406) (by decide +kernel), List.mem_of_getElem? (i := 407) (by decide +kernel)⟩
theorem lw_p15 : lw_okq (⟨"EtchedPlateModel", "saves", "()V"⟩, 11) := ⟨⟨by decide +kernel, by decide +kernel⟩, List.mem_of_getElem? (i := 362) (by decide +kernel), List.mem_of_getElem? (i := 414) (by decide +kernel), List.mem_of_getElem? (i := 415) (by decide +kernel)⟩
def lw_privs_1 : List (MethodName × Nat) := [(⟨"EtchedPlate", "refuse", "(I)I"⟩, 6), (⟨"EtchedPlate", "save", "()V"⟩, 6), (⟨"EtchedPlate", "dropOldest", "()V"⟩, 6), (⟨"EtchedPlate", "isLine", "(I)Z"⟩, 6), (⟨"EtchedPlate$Plate", "wear", "()V"⟩, 9), (⟨"EtchedPlate", "isPrint", "(I)Z"⟩, 6), (⟨"EtchedPlate$Plate", "placesAmongLikes", "(II)I"⟩, 9), (⟨"EtchedPlate$Plan", "chooseTotals", "()V"⟩, 6), (⟨"EtchedPlate$Plan", "nextTotal", "(I)I"⟩, 6), (⟨"EtchedPlate", "faultOfDip", "(I)I"⟩, 6), (⟨"EtchedPlate$Plan", "totalBefore", "(I)I"⟩, 6), (⟨"EtchedPlate", "mixLines", "(J)J"⟩, 6), (⟨"EtchedPlate", "mixPrints", "(J)J"⟩, 6), (⟨"EtchedPlate", "mixPlan", "(J)J"⟩, 6), (⟨"EtchedPlateModel", "fails", "(I)I"⟩, 11), (⟨"EtchedPlateModel", "saves", "()V"⟩, 11)]
theorem lw_r1 : ∀ q ∈ lw_privs_1, lw_okq q := List.forall_mem_cons.mpr ⟨lw_p0, List.forall_mem_cons.mpr ⟨lw_p1, List.forall_mem_cons.mpr ⟨lw_p2, List.forall_mem_cons.mpr ⟨lw_p3, List.forall_mem_cons.mpr ⟨lw_p4, List.forall_mem_cons.mpr ⟨lw_p5, List.forall_mem_cons.mpr ⟨lw_p6, List.forall_mem_cons.mpr ⟨lw_p7, List.forall_mem_cons.mpr ⟨lw_p8, List.forall_mem_cons.mpr ⟨lw_p9, List.forall_mem_cons.mpr ⟨lw_p10, List.forall_mem_cons.mpr ⟨lw_p11, List.forall_mem_cons.mpr ⟨lw_p12, List.forall_mem_cons.mpr ⟨lw_p13, List.forall_mem_cons.mpr ⟨lw_p14, List.forall_mem_cons.mpr ⟨lw_p15, fun _ h => absurd h List.not_mem_nil⟩⟩⟩⟩⟩⟩⟩⟩⟩⟩⟩⟩⟩⟩⟩⟩
theorem lw_p16 : lw_okq (⟨"EtchedPlateModel", "isLine", "(I)Z"⟩, 11) := ⟨⟨by decide +kernel, by decide +kernel⟩, List.mem_of_getElem? (i := 362) (by decide +kernel), List.mem_of_getElem? (i := 444) (by decide +kernel), List.mem_of_getElem? (i := 445) (by decide +kernel)⟩
theorem lw_p17 : lw_okq (⟨"EtchedPlateModel", "isPrint", "(I)Z"⟩, 11) := ⟨⟨by decide +kernel, by decide +kernel⟩, List.mem_of_getElem? (i := 362) (by decide +kernel), List.mem_of_getElem? (i := 486) (by decide +kernel), List.mem_of_getElem? (i := 487) (by decide +kernel)⟩
theorem lw_p18 : lw_okq (⟨"EtchedPlateModel", "toneOf", "(II)I"⟩, 11) := ⟨⟨by decide +kernel, by decide +kernel⟩, List.mem_of_getElem? (i := 362) (by decide +kernel), List.mem_of_getElem? (i := 494) (by decide +kernel), List.mem_of_getElem? (i := 495) (by decide +kernel)⟩
theorem lw_p19 : lw_okq (⟨"EtchedPlateModel", "may", "(II)Z"⟩, 11) := ⟨⟨by decide +kernel, by decide +kernel⟩, List.mem_of_getElem? (i := 362) (by decide +kernel), List.mem_of_getElem? (i := 502) (by decide +kernel), List.mem_of_getElem? (i := 503) (by decide +kernel)⟩
theorem lw_p20 : lw_okq (⟨"EtchedPlateModel", "ordersOf", "(I)I"⟩, 11) := ⟨⟨by decide +kernel, by decide +kernel⟩, List.mem_of_getElem? (i := 362) (by decide +kernel), List.mem_of_getElem? (i := 510) (by decide +kernel), List.mem_of_getElem? (i := 511) (by decide +kernel)⟩
theorem lw_p21 : lw_okq (⟨"EtchedPlateModel", "blocked", "()I"⟩, 11) := ⟨⟨by decide +kernel, by decide +kernel⟩, List.mem_of_getElem? (i := 362) (by decide +kernel), List.mem_of_getElem? (i := 526) (by decide +kernel), List.mem_of_getElem? (i := 527) (by decide +kernel)⟩
theorem lw_p22 : lw_okq (⟨"EtchedPlateModel", "greatest", "(I)I"⟩, 11) := ⟨⟨by decide +kernel, by decide +kernel⟩, List.mem_of_getElem? (i := 362) (by decide +kernel), List.mem_of_getElem? (i := 530) (by decide +kernel), List.mem_of_getElem? (i := 531) (by decide +kernel)⟩
theorem lw_p23 : lw_okq (⟨"EtchedPlateModel", "allows", "(II)Z"⟩, 11) := ⟨⟨by decide +kernel, by decide +kernel⟩, List.mem_of_getElem? (i := 362) (by decide +kernel), List.mem_of_getElem? (i := 534) (by decide +kernel), List.mem_of_getElem? (i := 535) (by decide +kernel)⟩
theorem lw_p24 : lw_okq (⟨"EtchedPlateModel", "plans", "()V"⟩, 11) := ⟨⟨by decide +kernel, by decide +kernel⟩, List.mem_of_getElem? (i := 362) (by decide +kernel), List.mem_of_getElem? (i := 538) (by decide +kernel), List.mem_of_getElem? (i := 539) (by decide +kernel)⟩
theorem lw_p25 : lw_okq (⟨"EtchedPlateModel", "usedBy", "(I)I"⟩, 11) := ⟨⟨by decide +kernel, by decide +kernel⟩, List.mem_of_getElem? (i := 362) (by decide +kernel), List.mem_of_getElem? (i := 542) (by decide +kernel), List.mem_of_getElem? (i := 543) (by decide +kernel)⟩
theorem lw_p26 : lw_okq (⟨"EtchedPlateModel", "against", "(I)I"⟩, 11) := ⟨⟨by decide +kernel, by decide +kernel⟩, List.mem_of_getElem? (i := 362) (by decide +kernel), List.mem_of_getElem? (i := 550) (by decide +kernel), List.mem_of_getElem? (i := 551) (by decide +kernel)⟩
theorem lw_p27 : lw_okq (⟨"EtchedPlateModel", "minutesOf", "(I)I"⟩, 11) := ⟨⟨by decide +kernel, by decide +kernel⟩, List.mem_of_getElem? (i := 362) (by decide +kernel), List.mem_of_getElem? (i := 554) (by decide +kernel), List.mem_of_getElem? (i := 555) (by decide +kernel)⟩
theorem lw_p28 : lw_okq (⟨"EtchedPlateModel", "doneBefore", "(I)I"⟩, 11) := ⟨⟨by decide +kernel, by decide +kernel⟩, List.mem_of_getElem? (i := 362) (by decide +kernel), List.mem_of_getElem? (i := 562) (by decide +kernel), List.mem_of_getElem? (i := 563) (by decide +kernel)⟩
theorem lw_p29 : lw_okq (⟨"EtchedPlateModel", "mix", "(I)V"⟩, 11) := ⟨⟨by decide +kernel, by decide +kernel⟩, List.mem_of_getElem? (i := 362) (by decide +kernel), List.mem_of_getElem? (i := 579) (by decide +kernel), List.mem_of_getElem? (i := 580) (by decide +kernel)⟩
theorem lw_p30 : lw_okq (⟨"EtchedPlateModel", "mixPrints", "()V"⟩, 11) := ⟨⟨by decide +kernel, by decide +kernel⟩, List.mem_of_getElem? (i := 362) (by decide +kernel), List.mem_of_getElem? (i := 584) (by decide +kernel), List.mem_of_getElem? (i := 585) (by decide +kernel)⟩
theorem lw_p31 : lw_okq (⟨"EtchedPlateModel", "mixPlan", "()V"⟩, 11) := ⟨⟨by decide +kernel, by decide +kernel⟩, List.mem_of_getElem? (i := 362) (by decide +kernel), List.mem_of_getElem? (i := 588) (by decide +kernel), List.mem_of_getElem? (i := 589) (by decide +kernel)⟩
def lw_privs_2 : List (MethodName × Nat) := [(⟨"EtchedPlateModel", "isLine", "(I)Z"⟩, 11), (⟨"EtchedPlateModel", "isPrint", "(I)Z"⟩, 11), (⟨"EtchedPlateModel", "toneOf", "(II)I"⟩, 11), (⟨"EtchedPlateModel", "may", "(II)Z"⟩, 11), (⟨"EtchedPlateModel", "ordersOf", "(I)I"⟩, 11), (⟨"EtchedPlateModel", "blocked", "()I"⟩, 11), (⟨"EtchedPlateModel", "greatest", "(I)I"⟩, 11), (⟨"EtchedPlateModel", "allows", "(II)Z"⟩, 11), (⟨"EtchedPlateModel", "plans", "()V"⟩, 11), (⟨"EtchedPlateModel", "usedBy", "(I)I"⟩, 11), (⟨"EtchedPlateModel", "against", "(I)I"⟩, 11), (⟨"EtchedPlateModel", "minutesOf", "(I)I"⟩, 11), (⟨"EtchedPlateModel", "doneBefore", "(I)I"⟩, 11), (⟨"EtchedPlateModel", "mix", "(I)V"⟩, 11), (⟨"EtchedPlateModel", "mixPrints", "()V"⟩, 11), (⟨"EtchedPlateModel", "mixPlan", "()V"⟩, 11)]
theorem lw_r2 : ∀ q ∈ lw_privs_2, lw_okq q := List.forall_mem_cons.mpr ⟨lw_p16, List.forall_mem_cons.mpr ⟨lw_p17, List.forall_mem_cons.mpr ⟨lw_p18, List.forall_mem_cons.mpr ⟨lw_p19, List.forall_mem_cons.mpr ⟨lw_p20, List.forall_mem_cons.mpr ⟨lw_p21, List.forall_mem_cons.mpr ⟨lw_p22, List.forall_mem_cons.mpr ⟨lw_p23, List.forall_mem_cons.mpr ⟨lw_p24, List.forall_mem_cons.mpr ⟨lw_p25, List.forall_mem_cons.mpr ⟨lw_p26, List.forall_mem_cons.mpr ⟨lw_p27, List.forall_mem_cons.mpr ⟨lw_p28, List.forall_mem_cons.mpr ⟨lw_p29, List.forall_mem_cons.mpr ⟨lw_p30, List.forall_mem_cons.mpr ⟨lw_p31, fun _ h => absurd h List.not_mem_nil⟩⟩⟩⟩⟩⟩⟩⟩⟩⟩⟩⟩⟩⟩⟩⟩
def lw_privs : List (MethodName × Nat) := lw_privs_1 ++ (lw_privs_2)
def lw_tbl : List Cond := k2_sels lw_privs ++ tables_1
theorem lw_privs_ok : ∀ q ∈ lw_privs, lw_okq q := by
  show ∀ q ∈ lw_privs_1 ++ (lw_privs_2), lw_okq q
  exact List.forall_mem_append.mpr ⟨lw_r1, lw_r2⟩
/-- the streams that the claim lets the run draw from -/
abbrev lw_cs : List Choice := [Jvm.Choice.named "NaN.bits"]
theorem lw_bits : nanBits ∈ lw_cs := by first | decide | exact List.mem_cons_self | simp [lw_cs, nanBits]
end
section
/-! names of classes, fields, methods (printed by the kit for this class), places of the tables words -/
def RX0 : String := "EtchedPlate$Plan"
def TX0 : u_T := fun k => match k with
  | 0 => ("EtchedPlate$Plan", "fewest", "[I", true)
  | 1 => ("EtchedPlate$Plan", "most", "[I", true)
  | 2 => ("EtchedPlate$Plan", "totals", "[I", true)
  | 3 => ("EtchedPlate$Plan", "lineCount", "I", false)
  | 4 => ("EtchedPlate$Plan", "totalCount", "I", false)
  | _ => ("EtchedPlate$Plan", "blockedLines", "I", false)
def tyX0 : Nat → FieldType := fun k => match k with
  | 0 => .array .int
  | 1 => .array .int
  | 2 => .array .int
  | 3 => .int
  | 4 => .int
  | _ => .int
abbrev wsX00 : List Cond := u_ws RX0 TX0 6
theorem nmX0 : ∀ a, a < 6 → ∀ b, b < 6 → a ≠ b → (TX0 a).2.1 ≠ (TX0 b).2.1 := by decide +kernel
theorem tyX0_ok : ∀ k, k < 6 → parseFieldDescriptor (TX0 k).2.2.1 = some (tyX0 k) := by decide +kernel
abbrev cX0_init : ByteArray := prog_2_method_1_code
def yX0_init : MethodName := ⟨RX0, "<init>", "()V"⟩
abbrev cX0_make : ByteArray := prog_2_method_2_code
def yX0_make : MethodName := ⟨RX0, "make", "(LEtchedPlate$Plate;[I)V"⟩
abbrev cX0_fewestMinutes : ByteArray := prog_2_method_3_code
def yX0_fewestMinutes : MethodName := ⟨RX0, "fewestMinutes", "(II)I"⟩
abbrev cX0_mostMinutes : ByteArray := prog_2_method_4_code
def yX0_mostMinutes : MethodName := ⟨RX0, "mostMinutes", "(II)I"⟩
abbrev cX0_chooseTotals : ByteArray := prog_2_method_5_code
def yX0_chooseTotals : MethodName := ⟨RX0, "chooseTotals", "()V"⟩
abbrev cX0_nextTotal : ByteArray := prog_2_method_6_code
def yX0_nextTotal : MethodName := ⟨RX0, "nextTotal", "(I)I"⟩
abbrev cX0_totalBefore : ByteArray := prog_2_method_7_code
def yX0_totalBefore : MethodName := ⟨RX0, "totalBefore", "(I)I"⟩
abbrev cX0_minutesAt : ByteArray := prog_2_method_8_code
def yX0_minutesAt : MethodName := ⟨RX0, "minutesAt", "(I)I"⟩
abbrev cX0_finishedBefore : ByteArray := prog_2_method_9_code
def yX0_finishedBefore : MethodName := ⟨RX0, "finishedBefore", "(I)I"⟩
def RX1 : String := "EtchedPlate$Plate"
def TX1 : u_T := fun k => match k with
  | 0 => ("EtchedPlate$Plate", "depths", "[I", true)
  | 1 => ("EtchedPlate$Plate", "printStates", "[I", true)
  | 2 => ("EtchedPlate$Plate", "printTones", "[I", true)
  | 3 => ("EtchedPlate$Plate", "lineCount", "I", false)
  | 4 => ("EtchedPlate$Plate", "varnishedLines", "I", false)
  | 5 => ("EtchedPlate$Plate", "strength", "I", false)
  | 6 => ("EtchedPlate$Plate", "printCount", "I", false)
  | 7 => ("EtchedPlate$Plate", "stateNumber", "I", false)
  | _ => ("EtchedPlate$Plate", "workedSincePrint", "Z", false)
def tyX1 : Nat → FieldType := fun k => match k with
  | 0 => .array .int
  | 1 => .array .int
  | 2 => .array .int
  | 3 => .int
  | 4 => .int
  | 5 => .int
  | 6 => .int
  | 7 => .int
  | _ => .boolean
abbrev wsX10 : List Cond := u_ws RX1 TX1 9
theorem nmX1 : ∀ a, a < 9 → ∀ b, b < 9 → a ≠ b → (TX1 a).2.1 ≠ (TX1 b).2.1 := by decide +kernel
theorem tyX1_ok : ∀ k, k < 9 → parseFieldDescriptor (TX1 k).2.2.1 = some (tyX1 k) := by decide +kernel
abbrev cX1_init : ByteArray := prog_3_method_1_code
def yX1_init : MethodName := ⟨RX1, "<init>", "()V"⟩
abbrev cX1_copyFrom : ByteArray := prog_3_method_2_code
def yX1_copyFrom : MethodName := ⟨RX1, "copyFrom", "(LEtchedPlate$Plate;)V"⟩
abbrev cX1_addLine : ByteArray := prog_3_method_3_code
def yX1_addLine : MethodName := ⟨RX1, "addLine", "()I"⟩
abbrev cX1_etch : ByteArray := prog_3_method_4_code
def yX1_etch : MethodName := ⟨RX1, "etch", "(I)I"⟩
abbrev cX1_rubDown : ByteArray := prog_3_method_5_code
def yX1_rubDown : MethodName := ⟨RX1, "rubDown", "(II)I"⟩
abbrev cX1_addPrint : ByteArray := prog_3_method_6_code
def yX1_addPrint : MethodName := ⟨RX1, "addPrint", "()I"⟩
abbrev cX1_wear : ByteArray := prog_3_method_7_code
def yX1_wear : MethodName := ⟨RX1, "wear", "()V"⟩
abbrev cX1_depthSum : ByteArray := prog_3_method_8_code
def yX1_depthSum : MethodName := ⟨RX1, "depthSum", "()I"⟩
abbrev cX1_printedTone : ByteArray := prog_3_method_9_code
def yX1_printedTone : MethodName := ⟨RX1, "printedTone", "(II)I"⟩
abbrev cX1_nowhereDarker : ByteArray := prog_3_method_10_code
def yX1_nowhereDarker : MethodName := ⟨RX1, "nowhereDarker", "(II)Z"⟩
abbrev cX1_countOrders : ByteArray := prog_3_method_11_code
def yX1_countOrders : MethodName := ⟨RX1, "countOrders", "(I)I"⟩
abbrev cX1_placesAmongLikes : ByteArray := prog_3_method_12_code
def yX1_placesAmongLikes : MethodName := ⟨RX1, "placesAmongLikes", "(II)I"⟩
abbrev cX1_differenceFrom : ByteArray := prog_3_method_13_code
def yX1_differenceFrom : MethodName := ⟨RX1, "differenceFrom", "(I[I)I"⟩
def RX2 : String := "EtchedPlate"
def TX2 : u_T := fun k => match k with
  | 0 => ("EtchedPlate", "now", "LEtchedPlate$Plate;", true)
  | 1 => ("EtchedPlate", "saved", "[LEtchedPlate$Plate;", true)
  | 2 => ("EtchedPlate", "plan", "LEtchedPlate$Plan;", true)
  | 3 => ("EtchedPlate", "targets", "[I", true)
  | 4 => ("EtchedPlate", "errors", "[I", true)
  | _ => ("EtchedPlate", "savedCount", "I", false)
def tyX2 : Nat → FieldType := fun k => match k with
  | 0 => .object "EtchedPlate$Plate"
  | 1 => .array (.object "EtchedPlate$Plate")
  | 2 => .object "EtchedPlate$Plan"
  | 3 => .array .int
  | 4 => .array .int
  | _ => .int
abbrev wsX20 : List Cond := u_ws RX2 TX2 6
theorem nmX2 : ∀ a, a < 6 → ∀ b, b < 6 → a ≠ b → (TX2 a).2.1 ≠ (TX2 b).2.1 := by decide +kernel
theorem tyX2_ok : ∀ k, k < 6 → parseFieldDescriptor (TX2 k).2.2.1 = some (tyX2 k) := by decide +kernel
abbrev cX2_init : ByteArray := prog_1_method_1_code
def yX2_init : MethodName := ⟨RX2, "<init>", "()V"⟩
abbrev cX2_draw : ByteArray := prog_1_method_2_code
def yX2_draw : MethodName := ⟨RX2, "draw", "()I"⟩
abbrev cX2_setStrength : ByteArray := prog_1_method_3_code
def yX2_setStrength : MethodName := ⟨RX2, "setStrength", "(I)I"⟩
abbrev cX2_dip : ByteArray := prog_1_method_4_code
def yX2_dip : MethodName := ⟨RX2, "dip", "(I)I"⟩
abbrev cX2_varnish : ByteArray := prog_1_method_5_code
def yX2_varnish : MethodName := ⟨RX2, "varnish", "(I)I"⟩
abbrev cX2_clean : ByteArray := prog_1_method_6_code
def yX2_clean : MethodName := ⟨RX2, "clean", "()I"⟩
abbrev cX2_burnish : ByteArray := prog_1_method_7_code
def yX2_burnish : MethodName := ⟨RX2, "burnish", "(II)I"⟩
abbrev cX2_pull : ByteArray := prog_1_method_8_code
def yX2_pull : MethodName := ⟨RX2, "pull", "()I"⟩
abbrev cX2_lines : ByteArray := prog_1_method_9_code
def yX2_lines : MethodName := ⟨RX2, "lines", "()I"⟩
abbrev cX2_depth : ByteArray := prog_1_method_10_code
def yX2_depth : MethodName := ⟨RX2, "depth", "(I)I"⟩
abbrev cX2_varnished : ByteArray := prog_1_method_11_code
def yX2_varnished : MethodName := ⟨RX2, "varnished", "()I"⟩
abbrev cX2_meanDepthBits : ByteArray := prog_1_method_12_code
def yX2_meanDepthBits : MethodName := ⟨RX2, "meanDepthBits", "()I"⟩
abbrev cX2_prints : ByteArray := prog_1_method_13_code
def yX2_prints : MethodName := ⟨RX2, "prints", "()I"⟩
abbrev cX2_stateOf : ByteArray := prog_1_method_14_code
def yX2_stateOf : MethodName := ⟨RX2, "stateOf", "(I)I"⟩
abbrev cX2_tone : ByteArray := prog_1_method_15_code
def yX2_tone : MethodName := ⟨RX2, "tone", "(II)I"⟩
abbrev cX2_mayPrecede : ByteArray := prog_1_method_16_code
def yX2_mayPrecede : MethodName := ⟨RX2, "mayPrecede", "(II)I"⟩
abbrev cX2_orders : ByteArray := prog_1_method_17_code
def yX2_orders : MethodName := ⟨RX2, "orders", "(I)I"⟩
abbrev cX2_bestState : ByteArray := prog_1_method_18_code
def yX2_bestState : MethodName := ⟨RX2, "bestState", "()I"⟩
abbrev cX2_setTarget : ByteArray := prog_1_method_19_code
def yX2_setTarget : MethodName := ⟨RX2, "setTarget", "(II)I"⟩
abbrev cX2_dips : ByteArray := prog_1_method_20_code
def yX2_dips : MethodName := ⟨RX2, "dips", "()I"⟩
abbrev cX2_dipMinutes : ByteArray := prog_1_method_21_code
def yX2_dipMinutes : MethodName := ⟨RX2, "dipMinutes", "(I)I"⟩
abbrev cX2_dipVarnish : ByteArray := prog_1_method_22_code
def yX2_dipVarnish : MethodName := ⟨RX2, "dipVarnish", "(I)I"⟩
abbrev cX2_obstacles : ByteArray := prog_1_method_23_code
def yX2_obstacles : MethodName := ⟨RX2, "obstacles", "()I"⟩
abbrev cX2_undo : ByteArray := prog_1_method_24_code
def yX2_undo : MethodName := ⟨RX2, "undo", "()I"⟩
abbrev cX2_errorCount : ByteArray := prog_1_method_25_code
def yX2_errorCount : MethodName := ⟨RX2, "errorCount", "(I)I"⟩
abbrev cX2_digest : ByteArray := prog_1_method_26_code
def yX2_digest : MethodName := ⟨RX2, "digest", "()J"⟩
abbrev cX2_mix : ByteArray := prog_1_method_27_code
def yX2_mix : MethodName := ⟨RX2, "mix", "(JI)J"⟩
abbrev cX2_mixLines : ByteArray := prog_1_method_28_code
def yX2_mixLines : MethodName := ⟨RX2, "mixLines", "(J)J"⟩
abbrev cX2_mixPrints : ByteArray := prog_1_method_29_code
def yX2_mixPrints : MethodName := ⟨RX2, "mixPrints", "(J)J"⟩
abbrev cX2_mixPlan : ByteArray := prog_1_method_30_code
def yX2_mixPlan : MethodName := ⟨RX2, "mixPlan", "(J)J"⟩
abbrev cX2_refuse : ByteArray := prog_1_method_31_code
def yX2_refuse : MethodName := ⟨RX2, "refuse", "(I)I"⟩
abbrev cX2_faultOfDip : ByteArray := prog_1_method_32_code
def yX2_faultOfDip : MethodName := ⟨RX2, "faultOfDip", "(I)I"⟩
abbrev cX2_isLine : ByteArray := prog_1_method_33_code
def yX2_isLine : MethodName := ⟨RX2, "isLine", "(I)Z"⟩
abbrev cX2_isPrint : ByteArray := prog_1_method_34_code
def yX2_isPrint : MethodName := ⟨RX2, "isPrint", "(I)Z"⟩
abbrev cX2_allBelow : ByteArray := prog_1_method_35_code
def yX2_allBelow : MethodName := ⟨RX2, "allBelow", "(I)I"⟩
abbrev cX2_isSetBelow : ByteArray := prog_1_method_36_code
def yX2_isSetBelow : MethodName := ⟨RX2, "isSetBelow", "(II)Z"⟩
abbrev cX2_contains : ByteArray := prog_1_method_37_code
def yX2_contains : MethodName := ⟨RX2, "contains", "(II)Z"⟩
abbrev cX2_save : ByteArray := prog_1_method_38_code
def yX2_save : MethodName := ⟨RX2, "save", "()V"⟩
abbrev cX2_dropOldest : ByteArray := prog_1_method_39_code
def yX2_dropOldest : MethodName := ⟨RX2, "dropOldest", "()V"⟩
abbrev cX2_bitsOf : ByteArray := prog_1_method_40_code
def yX2_bitsOf : MethodName := ⟨RX2, "bitsOf", "(F)I"⟩
def RX3 : String := "EtchedPlateModel"
def TX3 : u_T := fun k => match k with
  | 0 => ("EtchedPlateModel", "now", "[I", true)
  | 1 => ("EtchedPlateModel", "past", "[I", true)
  | 2 => ("EtchedPlateModel", "saved", "I", false)
  | 3 => ("EtchedPlateModel", "errors", "[I", true)
  | 4 => ("EtchedPlateModel", "target", "[I", true)
  | 5 => ("EtchedPlateModel", "ways", "[I", true)
  | 6 => ("EtchedPlateModel", "ahead", "[I", true)
  | 7 => ("EtchedPlateModel", "totals", "[I", true)
  | 8 => ("EtchedPlateModel", "uses", "[I", true)
  | 9 => ("EtchedPlateModel", "totalMany", "I", false)
  | _ => ("EtchedPlateModel", "hash", "J", false)
def tyX3 : Nat → FieldType := fun k => match k with
  | 0 => .array .int
  | 1 => .array .int
  | 2 => .int
  | 3 => .array .int
  | 4 => .array .int
  | 5 => .array .int
  | 6 => .array .int
  | 7 => .array .int
  | 8 => .array .int
  | 9 => .int
  | _ => .long
abbrev wsX30 : List Cond := u_ws RX3 TX3 11
theorem nmX3 : ∀ a, a < 11 → ∀ b, b < 11 → a ≠ b → (TX3 a).2.1 ≠ (TX3 b).2.1 := by decide +kernel
theorem tyX3_ok : ∀ k, k < 11 → parseFieldDescriptor (TX3 k).2.2.1 = some (tyX3 k) := by decide +kernel
abbrev cX3_init : ByteArray := prog_5_method_1_code
def yX3_init : MethodName := ⟨RX3, "<init>", "()V"⟩
abbrev cX3_within : ByteArray := prog_5_method_3_code
def yX3_within : MethodName := ⟨RX3, "within", "(III)Z"⟩
abbrev cX3_ones : ByteArray := prog_5_method_4_code
def yX3_ones : MethodName := ⟨RX3, "ones", "(I)I"⟩
abbrev cX3_fails : ByteArray := prog_5_method_5_code
def yX3_fails : MethodName := ⟨RX3, "fails", "(I)I"⟩
abbrev cX3_isLine : ByteArray := prog_5_method_6_code
def yX3_isLine : MethodName := ⟨RX3, "isLine", "(I)Z"⟩
abbrev cX3_isPrint : ByteArray := prog_5_method_7_code
def yX3_isPrint : MethodName := ⟨RX3, "isPrint", "(I)Z"⟩
abbrev cX3_saves : ByteArray := prog_5_method_8_code
def yX3_saves : MethodName := ⟨RX3, "saves", "()V"⟩
abbrev cX3_undo : ByteArray := prog_5_method_9_code
def yX3_undo : MethodName := ⟨RX3, "undo", "()I"⟩
abbrev cX3_draw : ByteArray := prog_5_method_10_code
def yX3_draw : MethodName := ⟨RX3, "draw", "()I"⟩
abbrev cX3_setStrength : ByteArray := prog_5_method_11_code
def yX3_setStrength : MethodName := ⟨RX3, "setStrength", "(I)I"⟩
abbrev cX3_dip : ByteArray := prog_5_method_12_code
def yX3_dip : MethodName := ⟨RX3, "dip", "(I)I"⟩
abbrev cX3_varnish : ByteArray := prog_5_method_13_code
def yX3_varnish : MethodName := ⟨RX3, "varnish", "(I)I"⟩
abbrev cX3_clean : ByteArray := prog_5_method_14_code
def yX3_clean : MethodName := ⟨RX3, "clean", "()I"⟩
abbrev cX3_burnish : ByteArray := prog_5_method_15_code
def yX3_burnish : MethodName := ⟨RX3, "burnish", "(II)I"⟩
abbrev cX3_pull : ByteArray := prog_5_method_16_code
def yX3_pull : MethodName := ⟨RX3, "pull", "()I"⟩
abbrev cX3_lines : ByteArray := prog_5_method_17_code
def yX3_lines : MethodName := ⟨RX3, "lines", "()I"⟩
abbrev cX3_depth : ByteArray := prog_5_method_18_code
def yX3_depth : MethodName := ⟨RX3, "depth", "(I)I"⟩
abbrev cX3_varnished : ByteArray := prog_5_method_19_code
def yX3_varnished : MethodName := ⟨RX3, "varnished", "()I"⟩
abbrev cX3_meanDepthBits : ByteArray := prog_5_method_20_code
def yX3_meanDepthBits : MethodName := ⟨RX3, "meanDepthBits", "()I"⟩
abbrev cX3_prints : ByteArray := prog_5_method_21_code
def yX3_prints : MethodName := ⟨RX3, "prints", "()I"⟩
abbrev cX3_stateOf : ByteArray := prog_5_method_22_code
def yX3_stateOf : MethodName := ⟨RX3, "stateOf", "(I)I"⟩
abbrev cX3_toneOf : ByteArray := prog_5_method_23_code
def yX3_toneOf : MethodName := ⟨RX3, "toneOf", "(II)I"⟩
abbrev cX3_tone : ByteArray := prog_5_method_24_code
def yX3_tone : MethodName := ⟨RX3, "tone", "(II)I"⟩
abbrev cX3_may : ByteArray := prog_5_method_25_code
def yX3_may : MethodName := ⟨RX3, "may", "(II)Z"⟩
abbrev cX3_mayPrecede : ByteArray := prog_5_method_26_code
def yX3_mayPrecede : MethodName := ⟨RX3, "mayPrecede", "(II)I"⟩
abbrev cX3_ordersOf : ByteArray := prog_5_method_27_code
def yX3_ordersOf : MethodName := ⟨RX3, "ordersOf", "(I)I"⟩
abbrev cX3_orders : ByteArray := prog_5_method_28_code
def yX3_orders : MethodName := ⟨RX3, "orders", "(I)I"⟩
abbrev cX3_bestState : ByteArray := prog_5_method_29_code
def yX3_bestState : MethodName := ⟨RX3, "bestState", "()I"⟩
abbrev cX3_setTarget : ByteArray := prog_5_method_30_code
def yX3_setTarget : MethodName := ⟨RX3, "setTarget", "(II)I"⟩
abbrev cX3_allows : ByteArray := prog_5_method_31_code
def yX3_allows : MethodName := ⟨RX3, "allows", "(II)Z"⟩
abbrev cX3_greatest : ByteArray := prog_5_method_32_code
def yX3_greatest : MethodName := ⟨RX3, "greatest", "(I)I"⟩
abbrev cX3_blocked : ByteArray := prog_5_method_33_code
def yX3_blocked : MethodName := ⟨RX3, "blocked", "()I"⟩
abbrev cX3_usedBy : ByteArray := prog_5_method_34_code
def yX3_usedBy : MethodName := ⟨RX3, "usedBy", "(I)I"⟩
abbrev cX3_plans : ByteArray := prog_5_method_35_code
def yX3_plans : MethodName := ⟨RX3, "plans", "()V"⟩
abbrev cX3_minutesOf : ByteArray := prog_5_method_36_code
def yX3_minutesOf : MethodName := ⟨RX3, "minutesOf", "(I)I"⟩
abbrev cX3_doneBefore : ByteArray := prog_5_method_37_code
def yX3_doneBefore : MethodName := ⟨RX3, "doneBefore", "(I)I"⟩
abbrev cX3_dips : ByteArray := prog_5_method_38_code
def yX3_dips : MethodName := ⟨RX3, "dips", "()I"⟩
abbrev cX3_against : ByteArray := prog_5_method_39_code
def yX3_against : MethodName := ⟨RX3, "against", "(I)I"⟩
abbrev cX3_dipMinutes : ByteArray := prog_5_method_40_code
def yX3_dipMinutes : MethodName := ⟨RX3, "dipMinutes", "(I)I"⟩
abbrev cX3_dipVarnish : ByteArray := prog_5_method_41_code
def yX3_dipVarnish : MethodName := ⟨RX3, "dipVarnish", "(I)I"⟩
abbrev cX3_obstacles : ByteArray := prog_5_method_42_code
def yX3_obstacles : MethodName := ⟨RX3, "obstacles", "()I"⟩
abbrev cX3_errorCount : ByteArray := prog_5_method_43_code
def yX3_errorCount : MethodName := ⟨RX3, "errorCount", "(I)I"⟩
abbrev cX3_mix : ByteArray := prog_5_method_44_code
def yX3_mix : MethodName := ⟨RX3, "mix", "(I)V"⟩
abbrev cX3_mixPrints : ByteArray := prog_5_method_45_code
def yX3_mixPrints : MethodName := ⟨RX3, "mixPrints", "()V"⟩
abbrev cX3_mixPlan : ByteArray := prog_5_method_46_code
def yX3_mixPlan : MethodName := ⟨RX3, "mixPlan", "()V"⟩
abbrev cX3_digest : ByteArray := prog_5_method_47_code
def yX3_digest : MethodName := ⟨RX3, "digest", "()J"⟩
def RJxf58ca : String := "java/lang/Float"
def TJxf58ca : u_T := fun k => match k with
  | _ => ("", "", "", false)
def tyJxf58ca : Nat → FieldType := fun k => match k with
  | _ => .int
abbrev wsJxf58ca0 : List Cond := u_ws RJxf58ca TJxf58ca 0
theorem nmJxf58ca : ∀ a, a < 0 → ∀ b, b < 0 → a ≠ b → (TJxf58ca a).2.1 ≠ (TJxf58ca b).2.1 := by decide +kernel
theorem tyJxf58ca_ok : ∀ k, k < 0 → parseFieldDescriptor (TJxf58ca k).2.2.1 = some (tyJxf58ca k) := by decide +kernel
abbrev cJxf58ca_isNaN_12338 : ByteArray := prog_6_method_6_code
def yJxf58ca_isNaN_12338 : MethodName := ⟨RJxf58ca, "isNaN", "(F)Z"⟩
abbrev cJxf58ca_floatToIntBits_5c35a : ByteArray := prog_6_method_24_code
def yJxf58ca_floatToIntBits_5c35a : MethodName := ⟨RJxf58ca, "floatToIntBits", "(F)I"⟩
def RJ6 : String := "java/lang/Integer"
def TJ6 : u_T := fun k => match k with
  | _ => ("", "", "", false)
def tyJ6 : Nat → FieldType := fun k => match k with
  | _ => .int
abbrev wsJ60 : List Cond := u_ws RJ6 TJ6 0
theorem nmJ6 : ∀ a, a < 0 → ∀ b, b < 0 → a ≠ b → (TJ6 a).2.1 ≠ (TJ6 b).2.1 := by decide +kernel
theorem tyJ6_ok : ∀ k, k < 0 → parseFieldDescriptor (TJ6 k).2.2.1 = some (tyJ6 k) := by decide +kernel
abbrev cJ6_bitCount_0f7a4 : ByteArray := prog_7_method_49_code
def yJ6_bitCount_0f7a4 : MethodName := ⟨RJ6, "bitCount", "(I)I"⟩
def RJ9 : String := "java/lang/Math"
def TJ9 : u_T := fun k => match k with
  | _ => ("", "", "", false)
def tyJ9 : Nat → FieldType := fun k => match k with
  | _ => .int
abbrev wsJ90 : List Cond := u_ws RJ9 TJ9 0
theorem nmJ9 : ∀ a, a < 0 → ∀ b, b < 0 → a ≠ b → (TJ9 a).2.1 ≠ (TJ9 b).2.1 := by decide +kernel
theorem tyJ9_ok : ∀ k, k < 0 → parseFieldDescriptor (TJ9 k).2.2.1 = some (tyJ9 k) := by decide +kernel
abbrev cJ9_abs_0f7a4 : ByteArray := prog_8_method_59_code
def yJ9_abs_0f7a4 : MethodName := ⟨RJ9, "abs", "(I)I"⟩
abbrev cJ9_max_7cf53 : ByteArray := prog_8_method_65_code
def yJ9_max_7cf53 : MethodName := ⟨RJ9, "max", "(II)I"⟩
abbrev cJ9_min_7cf53 : ByteArray := prog_8_method_69_code
def yJ9_min_7cf53 : MethodName := ⟨RJ9, "min", "(II)I"⟩
def RJ10 : String := "java/lang/System"
def TJ10 : u_T := fun k => match k with
  | _ => ("", "", "", false)
def tyJ10 : Nat → FieldType := fun k => match k with
  | _ => .int
abbrev wsJ100 : List Cond := u_ws RJ10 TJ10 0
theorem nmJ10 : ∀ a, a < 0 → ∀ b, b < 0 → a ≠ b → (TJ10 a).2.1 ≠ (TJ10 b).2.1 := by decide +kernel
theorem tyJ10_ok : ∀ k, k < 0 → parseFieldDescriptor (TJ10 k).2.2.1 = some (tyJ10 k) := by decide +kernel
def RL : String := "EtchedPlateLaw"
abbrev cL_law : ByteArray := code
def yL_law : MethodName := ⟨RL, "law", "([I)Z"⟩
abbrev vwCl : List vw_C := [(RX0, TX0, 6), (RX1, TX1, 9), (RX2, TX2, 6), (RX3, TX3, 11)]
/-- an instruction of a method: its place, its length, the next place -/
def Dc (cc : ByteArray) (pc len pc2 : Nat) (i : Instr) : Prop := decode cc pc = .ok (i, len) ∧ pc + len = pc2
/-- the words that are handed on to callees -/
def lw_g : List Cond := lw_tbl.filter goodWord
theorem q_0 : (Cond.selects "EtchedPlate" ({ cls := "EtchedPlate", name := "refuse", desc := "(I)I" } : Jvm.MethodName) ({ cls := "EtchedPlate", name := "refuse", desc := "(I)I" } : Jvm.MethodName)) ∈ lw_g := List.mem_filter.mpr ⟨List.mem_of_getElem? (i := 0) rfl, rfl⟩
theorem q_1 : (Cond.selects "EtchedPlate" ({ cls := "EtchedPlate", name := "save", desc := "()V" } : Jvm.MethodName) ({ cls := "EtchedPlate", name := "save", desc := "()V" } : Jvm.MethodName)) ∈ lw_g := List.mem_filter.mpr ⟨List.mem_of_getElem? (i := 1) rfl, rfl⟩
theorem q_2 : (Cond.selects "EtchedPlate" ({ cls := "EtchedPlate", name := "dropOldest", desc := "()V" } : Jvm.MethodName) ({ cls := "EtchedPlate", name := "dropOldest", desc := "()V" } : Jvm.MethodName)) ∈ lw_g := List.mem_filter.mpr ⟨List.mem_of_getElem? (i := 2) rfl, rfl⟩
theorem q_3 : (Cond.selects "EtchedPlate" ({ cls := "EtchedPlate", name := "isLine", desc := "(I)Z" } : Jvm.MethodName) ({ cls := "EtchedPlate", name := "isLine", desc := "(I)Z" } : Jvm.MethodName)) ∈ lw_g := List.mem_filter.mpr ⟨List.mem_of_getElem? (i := 3) rfl, rfl⟩
theorem q_4 : (Cond.selects "EtchedPlate$Plate" ({ cls := "EtchedPlate$Plate", name := "wear", desc := "()V" } : Jvm.MethodName) ({ cls := "EtchedPlate$Plate", name := "wear", desc := "()V" } : Jvm.MethodName)) ∈ lw_g := List.mem_filter.mpr ⟨List.mem_of_getElem? (i := 4) rfl, rfl⟩
theorem q_5 : (Cond.selects "EtchedPlate" ({ cls := "EtchedPlate", name := "isPrint", desc := "(I)Z" } : Jvm.MethodName) ({ cls := "EtchedPlate", name := "isPrint", desc := "(I)Z" } : Jvm.MethodName)) ∈ lw_g := List.mem_filter.mpr ⟨List.mem_of_getElem? (i := 5) rfl, rfl⟩
theorem q_6 : (Cond.selects "EtchedPlate$Plate" ({ cls := "EtchedPlate$Plate", name := "placesAmongLikes", desc := "(II)I" } : Jvm.MethodName) ({ cls := "EtchedPlate$Plate", name := "placesAmongLikes", desc := "(II)I" } : Jvm.MethodName)) ∈ lw_g := List.mem_filter.mpr ⟨List.mem_of_getElem? (i := 6) rfl, rfl⟩
theorem q_7 : (Cond.selects "EtchedPlate$Plan" ({ cls := "EtchedPlate$Plan", name := "chooseTotals", desc := "()V" } : Jvm.MethodName) ({ cls := "EtchedPlate$Plan", name := "chooseTotals", desc := "()V" } : Jvm.MethodName)) ∈ lw_g := List.mem_filter.mpr ⟨List.mem_of_getElem? (i := 7) rfl, rfl⟩
theorem q_8 : (Cond.selects "EtchedPlate$Plan" ({ cls := "EtchedPlate$Plan", name := "nextTotal", desc := "(I)I" } : Jvm.MethodName) ({ cls := "EtchedPlate$Plan", name := "nextTotal", desc := "(I)I" } : Jvm.MethodName)) ∈ lw_g := List.mem_filter.mpr ⟨List.mem_of_getElem? (i := 8) rfl, rfl⟩
theorem q_9 : (Cond.selects "EtchedPlate" ({ cls := "EtchedPlate", name := "faultOfDip", desc := "(I)I" } : Jvm.MethodName) ({ cls := "EtchedPlate", name := "faultOfDip", desc := "(I)I" } : Jvm.MethodName)) ∈ lw_g := List.mem_filter.mpr ⟨List.mem_of_getElem? (i := 9) rfl, rfl⟩
theorem q_10 : (Cond.selects "EtchedPlate$Plan" ({ cls := "EtchedPlate$Plan", name := "totalBefore", desc := "(I)I" } : Jvm.MethodName) ({ cls := "EtchedPlate$Plan", name := "totalBefore", desc := "(I)I" } : Jvm.MethodName)) ∈ lw_g := List.mem_filter.mpr ⟨List.mem_of_getElem? (i := 10) rfl, rfl⟩
theorem q_11 : (Cond.selects "EtchedPlate" ({ cls := "EtchedPlate", name := "mixLines", desc := "(J)J" } : Jvm.MethodName) ({ cls := "EtchedPlate", name := "mixLines", desc := "(J)J" } : Jvm.MethodName)) ∈ lw_g := List.mem_filter.mpr ⟨List.mem_of_getElem? (i := 11) rfl, rfl⟩
theorem q_12 : (Cond.selects "EtchedPlate" ({ cls := "EtchedPlate", name := "mixPrints", desc := "(J)J" } : Jvm.MethodName) ({ cls := "EtchedPlate", name := "mixPrints", desc := "(J)J" } : Jvm.MethodName)) ∈ lw_g := List.mem_filter.mpr ⟨List.mem_of_getElem? (i := 12) rfl, rfl⟩
theorem q_13 : (Cond.selects "EtchedPlate" ({ cls := "EtchedPlate", name := "mixPlan", desc := "(J)J" } : Jvm.MethodName) ({ cls := "EtchedPlate", name := "mixPlan", desc := "(J)J" } : Jvm.MethodName)) ∈ lw_g := List.mem_filter.mpr ⟨List.mem_of_getElem? (i := 13) rfl, rfl⟩
theorem q_14 : (Cond.selects "EtchedPlateModel" ({ cls := "EtchedPlateModel", name := "fails", desc := "(I)I" } : Jvm.MethodName) ({ cls := "EtchedPlateModel", name := "fails", desc := "(I)I" } : Jvm.MethodName)) ∈ lw_g := List.mem_filter.mpr ⟨List.mem_of_getElem? (i := 14) rfl, rfl⟩
theorem q_15 : (Cond.selects "EtchedPlateModel" ({ cls := "EtchedPlateModel", name := "saves", desc := "()V" } : Jvm.MethodName) ({ cls := "EtchedPlateModel", name := "saves", desc := "()V" } : Jvm.MethodName)) ∈ lw_g := List.mem_filter.mpr ⟨List.mem_of_getElem? (i := 15) rfl, rfl⟩
theorem q_16 : (Cond.selects "EtchedPlateModel" ({ cls := "EtchedPlateModel", name := "isLine", desc := "(I)Z" } : Jvm.MethodName) ({ cls := "EtchedPlateModel", name := "isLine", desc := "(I)Z" } : Jvm.MethodName)) ∈ lw_g := List.mem_filter.mpr ⟨List.mem_of_getElem? (i := 16) rfl, rfl⟩
theorem q_17 : (Cond.selects "EtchedPlateModel" ({ cls := "EtchedPlateModel", name := "isPrint", desc := "(I)Z" } : Jvm.MethodName) ({ cls := "EtchedPlateModel", name := "isPrint", desc := "(I)Z" } : Jvm.MethodName)) ∈ lw_g := List.mem_filter.mpr ⟨List.mem_of_getElem? (i := 17) rfl, rfl⟩
theorem q_18 : (Cond.selects "EtchedPlateModel" ({ cls := "EtchedPlateModel", name := "toneOf", desc := "(II)I" } : Jvm.MethodName) ({ cls := "EtchedPlateModel", name := "toneOf", desc := "(II)I" } : Jvm.MethodName)) ∈ lw_g := List.mem_filter.mpr ⟨List.mem_of_getElem? (i := 18) rfl, rfl⟩
theorem q_19 : (Cond.selects "EtchedPlateModel" ({ cls := "EtchedPlateModel", name := "may", desc := "(II)Z" } : Jvm.MethodName) ({ cls := "EtchedPlateModel", name := "may", desc := "(II)Z" } : Jvm.MethodName)) ∈ lw_g := List.mem_filter.mpr ⟨List.mem_of_getElem? (i := 19) rfl, rfl⟩
theorem q_20 : (Cond.selects "EtchedPlateModel" ({ cls := "EtchedPlateModel", name := "ordersOf", desc := "(I)I" } : Jvm.MethodName) ({ cls := "EtchedPlateModel", name := "ordersOf", desc := "(I)I" } : Jvm.MethodName)) ∈ lw_g := List.mem_filter.mpr ⟨List.mem_of_getElem? (i := 20) rfl, rfl⟩
theorem q_21 : (Cond.selects "EtchedPlateModel" ({ cls := "EtchedPlateModel", name := "blocked", desc := "()I" } : Jvm.MethodName) ({ cls := "EtchedPlateModel", name := "blocked", desc := "()I" } : Jvm.MethodName)) ∈ lw_g := List.mem_filter.mpr ⟨List.mem_of_getElem? (i := 21) rfl, rfl⟩
theorem q_22 : (Cond.selects "EtchedPlateModel" ({ cls := "EtchedPlateModel", name := "greatest", desc := "(I)I" } : Jvm.MethodName) ({ cls := "EtchedPlateModel", name := "greatest", desc := "(I)I" } : Jvm.MethodName)) ∈ lw_g := List.mem_filter.mpr ⟨List.mem_of_getElem? (i := 22) rfl, rfl⟩
theorem q_23 : (Cond.selects "EtchedPlateModel" ({ cls := "EtchedPlateModel", name := "allows", desc := "(II)Z" } : Jvm.MethodName) ({ cls := "EtchedPlateModel", name := "allows", desc := "(II)Z" } : Jvm.MethodName)) ∈ lw_g := List.mem_filter.mpr ⟨List.mem_of_getElem? (i := 23) rfl, rfl⟩
theorem q_24 : (Cond.selects "EtchedPlateModel" ({ cls := "EtchedPlateModel", name := "plans", desc := "()V" } : Jvm.MethodName) ({ cls := "EtchedPlateModel", name := "plans", desc := "()V" } : Jvm.MethodName)) ∈ lw_g := List.mem_filter.mpr ⟨List.mem_of_getElem? (i := 24) rfl, rfl⟩
theorem q_25 : (Cond.selects "EtchedPlateModel" ({ cls := "EtchedPlateModel", name := "usedBy", desc := "(I)I" } : Jvm.MethodName) ({ cls := "EtchedPlateModel", name := "usedBy", desc := "(I)I" } : Jvm.MethodName)) ∈ lw_g := List.mem_filter.mpr ⟨List.mem_of_getElem? (i := 25) rfl, rfl⟩
theorem q_26 : (Cond.selects "EtchedPlateModel" ({ cls := "EtchedPlateModel", name := "against", desc := "(I)I" } : Jvm.MethodName) ({ cls := "EtchedPlateModel", name := "against", desc := "(I)I" } : Jvm.MethodName)) ∈ lw_g := List.mem_filter.mpr ⟨List.mem_of_getElem? (i := 26) rfl, rfl⟩
theorem q_27 : (Cond.selects "EtchedPlateModel" ({ cls := "EtchedPlateModel", name := "minutesOf", desc := "(I)I" } : Jvm.MethodName) ({ cls := "EtchedPlateModel", name := "minutesOf", desc := "(I)I" } : Jvm.MethodName)) ∈ lw_g := List.mem_filter.mpr ⟨List.mem_of_getElem? (i := 27) rfl, rfl⟩
theorem q_28 : (Cond.selects "EtchedPlateModel" ({ cls := "EtchedPlateModel", name := "doneBefore", desc := "(I)I" } : Jvm.MethodName) ({ cls := "EtchedPlateModel", name := "doneBefore", desc := "(I)I" } : Jvm.MethodName)) ∈ lw_g := List.mem_filter.mpr ⟨List.mem_of_getElem? (i := 28) rfl, rfl⟩
theorem q_29 : (Cond.selects "EtchedPlateModel" ({ cls := "EtchedPlateModel", name := "mix", desc := "(I)V" } : Jvm.MethodName) ({ cls := "EtchedPlateModel", name := "mix", desc := "(I)V" } : Jvm.MethodName)) ∈ lw_g := List.mem_filter.mpr ⟨List.mem_of_getElem? (i := 29) rfl, rfl⟩
theorem q_30 : (Cond.selects "EtchedPlateModel" ({ cls := "EtchedPlateModel", name := "mixPrints", desc := "()V" } : Jvm.MethodName) ({ cls := "EtchedPlateModel", name := "mixPrints", desc := "()V" } : Jvm.MethodName)) ∈ lw_g := List.mem_filter.mpr ⟨List.mem_of_getElem? (i := 30) rfl, rfl⟩
theorem q_31 : (Cond.selects "EtchedPlateModel" ({ cls := "EtchedPlateModel", name := "mixPlan", desc := "()V" } : Jvm.MethodName) ({ cls := "EtchedPlateModel", name := "mixPlan", desc := "()V" } : Jvm.MethodName)) ∈ lw_g := List.mem_filter.mpr ⟨List.mem_of_getElem? (i := 31) rfl, rfl⟩
theorem q_32 : (Cond.initialized "EtchedPlateLaw") ∈ lw_g := List.mem_filter.mpr ⟨List.mem_of_getElem? (i := 32) rfl, rfl⟩
theorem q_33 : (Cond.initialized "EtchedPlate") ∈ lw_g := List.mem_filter.mpr ⟨List.mem_of_getElem? (i := 33) rfl, rfl⟩
theorem q_34 : (Cond.initialized "EtchedPlate$Plate") ∈ lw_g := List.mem_filter.mpr ⟨List.mem_of_getElem? (i := 34) rfl, rfl⟩
theorem q_35 : (Cond.initialized "EtchedPlate$Plan") ∈ lw_g := List.mem_filter.mpr ⟨List.mem_of_getElem? (i := 35) rfl, rfl⟩
theorem q_36 : (Cond.initialized "EtchedPlateModel") ∈ lw_g := List.mem_filter.mpr ⟨List.mem_of_getElem? (i := 36) rfl, rfl⟩
theorem q_37 : (Cond.initialized "java/lang/System") ∈ lw_g := List.mem_filter.mpr ⟨List.mem_of_getElem? (i := 37) rfl, rfl⟩
theorem q_38 : (Cond.initialized "java/lang/Math") ∈ lw_g := List.mem_filter.mpr ⟨List.mem_of_getElem? (i := 38) rfl, rfl⟩
theorem q_39 : (Cond.initialized "java/lang/Integer") ∈ lw_g := List.mem_filter.mpr ⟨List.mem_of_getElem? (i := 39) rfl, rfl⟩
theorem q_40 : (Cond.initialized "java/lang/Float") ∈ lw_g := List.mem_filter.mpr ⟨List.mem_of_getElem? (i := 40) rfl, rfl⟩
theorem q_41 : (Cond.classLink "EtchedPlateLaw" (7 : Nat) "EtchedPlate") ∈ lw_g := List.mem_filter.mpr ⟨List.mem_of_getElem? (i := 41) rfl, rfl⟩
theorem q_42 : (Cond.instantiable "EtchedPlate" (6 : Nat)) ∈ lw_g := List.mem_filter.mpr ⟨List.mem_of_getElem? (i := 42) rfl, rfl⟩
theorem q_43 : (Cond.methodLink "EtchedPlateLaw" (9 : Nat) ({ cls := "EtchedPlate", name := "<init>", desc := "()V" } : Jvm.MethodName)) ∈ lw_g := List.mem_filter.mpr ⟨List.mem_of_getElem? (i := 43) rfl, rfl⟩
theorem q_44 : (Cond.instanceMethod ({ cls := "EtchedPlate", name := "<init>", desc := "()V" } : Jvm.MethodName)) ∈ lw_g := List.mem_filter.mpr ⟨List.mem_of_getElem? (i := 44) rfl, rfl⟩
theorem q_45 : (Cond.code ({ cls := "EtchedPlate", name := "<init>", desc := "()V" } : Jvm.MethodName) prog_1_method_1_code (2 : Nat) (Option.none : Option Jvm.ClassFile.FieldType)) ∈ lw_g := List.mem_filter.mpr ⟨List.mem_of_getElem? (i := 45) rfl, rfl⟩
theorem q_46 : (Cond.methodLink "EtchedPlate" (1 : Nat) ({ cls := "java/lang/Object", name := "<init>", desc := "()V" } : Jvm.MethodName)) ∈ lw_g := List.mem_filter.mpr ⟨List.mem_of_getElem? (i := 46) rfl, rfl⟩
theorem q_47 : (Cond.instanceMethod ({ cls := "java/lang/Object", name := "<init>", desc := "()V" } : Jvm.MethodName)) ∈ lw_g := List.mem_filter.mpr ⟨List.mem_of_getElem? (i := 47) rfl, rfl⟩
theorem q_48 : (Cond.code ({ cls := "java/lang/Object", name := "<init>", desc := "()V" } : Jvm.MethodName) object_method_1_code (1 : Nat) (Option.none : Option Jvm.ClassFile.FieldType)) ∈ lw_g := List.mem_filter.mpr ⟨List.mem_of_getElem? (i := 48) rfl, rfl⟩
theorem q_49 : (Cond.classLink "EtchedPlate" (7 : Nat) "EtchedPlate$Plate") ∈ lw_g := List.mem_filter.mpr ⟨List.mem_of_getElem? (i := 49) rfl, rfl⟩
theorem q_50 : (Cond.instantiable "EtchedPlate$Plate" (9 : Nat)) ∈ lw_g := List.mem_filter.mpr ⟨List.mem_of_getElem? (i := 50) rfl, rfl⟩
theorem q_51 : (Cond.methodLinkNest "EtchedPlate" (9 : Nat) ({ cls := "EtchedPlate$Plate", name := "<init>", desc := "()V" } : Jvm.MethodName) "EtchedPlate") ∈ lw_tbl := List.mem_of_getElem? (i := 51) rfl
theorem q_52 : (Cond.instanceMethod ({ cls := "EtchedPlate$Plate", name := "<init>", desc := "()V" } : Jvm.MethodName)) ∈ lw_g := List.mem_filter.mpr ⟨List.mem_of_getElem? (i := 52) rfl, rfl⟩
theorem q_53 : (Cond.code ({ cls := "EtchedPlate$Plate", name := "<init>", desc := "()V" } : Jvm.MethodName) prog_3_method_1_code (1 : Nat) (Option.none : Option Jvm.ClassFile.FieldType)) ∈ lw_g := List.mem_filter.mpr ⟨List.mem_of_getElem? (i := 53) rfl, rfl⟩
theorem q_54 : (Cond.methodLink "EtchedPlate$Plate" (3 : Nat) ({ cls := "java/lang/Object", name := "<init>", desc := "()V" } : Jvm.MethodName)) ∈ lw_g := List.mem_filter.mpr ⟨List.mem_of_getElem? (i := 54) rfl, rfl⟩
theorem q_55 : (Cond.fieldLink "EtchedPlate$Plate" (9 : Nat) "EtchedPlate$Plate" "depths" "[I") ∈ lw_g := List.mem_filter.mpr ⟨List.mem_of_getElem? (i := 55) rfl, rfl⟩
theorem q_56 : (Cond.fieldLink "EtchedPlate$Plan" (34 : Nat) "EtchedPlate$Plate" "depths" "[I") ∈ lw_g := List.mem_filter.mpr ⟨List.mem_of_getElem? (i := 56) rfl, rfl⟩
theorem q_57 : (Cond.fieldLink "EtchedPlate" (84 : Nat) "EtchedPlate$Plate" "depths" "[I") ∈ lw_g := List.mem_filter.mpr ⟨List.mem_of_getElem? (i := 57) rfl, rfl⟩
theorem q_58 : (Cond.fieldLink "EtchedPlate$Plate" (15 : Nat) "EtchedPlate$Plate" "printStates" "[I") ∈ lw_g := List.mem_filter.mpr ⟨List.mem_of_getElem? (i := 58) rfl, rfl⟩
theorem q_59 : (Cond.fieldLink "EtchedPlate" (97 : Nat) "EtchedPlate$Plate" "printStates" "[I") ∈ lw_g := List.mem_filter.mpr ⟨List.mem_of_getElem? (i := 59) rfl, rfl⟩
theorem q_60 : (Cond.fieldLink "EtchedPlate$Plate" (18 : Nat) "EtchedPlate$Plate" "printTones" "[I") ∈ lw_g := List.mem_filter.mpr ⟨List.mem_of_getElem? (i := 60) rfl, rfl⟩
theorem q_61 : (Cond.fieldLink "EtchedPlate$Plate" (21 : Nat) "EtchedPlate$Plate" "lineCount" "I") ∈ lw_g := List.mem_filter.mpr ⟨List.mem_of_getElem? (i := 61) rfl, rfl⟩
theorem q_62 : (Cond.fieldLink "EtchedPlate$Plan" (31 : Nat) "EtchedPlate$Plate" "lineCount" "I") ∈ lw_g := List.mem_filter.mpr ⟨List.mem_of_getElem? (i := 62) rfl, rfl⟩
theorem q_63 : (Cond.fieldLink "EtchedPlate" (38 : Nat) "EtchedPlate$Plate" "lineCount" "I") ∈ lw_g := List.mem_filter.mpr ⟨List.mem_of_getElem? (i := 63) rfl, rfl⟩
theorem q_64 : (Cond.fieldLink "EtchedPlate$Plate" (25 : Nat) "EtchedPlate$Plate" "varnishedLines" "I") ∈ lw_g := List.mem_filter.mpr ⟨List.mem_of_getElem? (i := 64) rfl, rfl⟩
theorem q_65 : (Cond.fieldLink "EtchedPlate" (62 : Nat) "EtchedPlate$Plate" "varnishedLines" "I") ∈ lw_g := List.mem_filter.mpr ⟨List.mem_of_getElem? (i := 65) rfl, rfl⟩
theorem q_66 : (Cond.fieldLink "EtchedPlate$Plate" (28 : Nat) "EtchedPlate$Plate" "strength" "I") ∈ lw_g := List.mem_filter.mpr ⟨List.mem_of_getElem? (i := 66) rfl, rfl⟩
theorem q_67 : (Cond.fieldLink "EtchedPlate$Plan" (37 : Nat) "EtchedPlate$Plate" "strength" "I") ∈ lw_g := List.mem_filter.mpr ⟨List.mem_of_getElem? (i := 67) rfl, rfl⟩
theorem q_68 : (Cond.fieldLink "EtchedPlate" (52 : Nat) "EtchedPlate$Plate" "strength" "I") ∈ lw_g := List.mem_filter.mpr ⟨List.mem_of_getElem? (i := 68) rfl, rfl⟩
theorem q_69 : (Cond.fieldLink "EtchedPlate$Plate" (31 : Nat) "EtchedPlate$Plate" "printCount" "I") ∈ lw_g := List.mem_filter.mpr ⟨List.mem_of_getElem? (i := 69) rfl, rfl⟩
theorem q_70 : (Cond.fieldLink "EtchedPlate" (78 : Nat) "EtchedPlate$Plate" "printCount" "I") ∈ lw_g := List.mem_filter.mpr ⟨List.mem_of_getElem? (i := 70) rfl, rfl⟩
theorem q_71 : (Cond.fieldLink "EtchedPlate$Plate" (34 : Nat) "EtchedPlate$Plate" "stateNumber" "I") ∈ lw_g := List.mem_filter.mpr ⟨List.mem_of_getElem? (i := 71) rfl, rfl⟩
theorem q_72 : (Cond.fieldLink "EtchedPlate$Plate" (37 : Nat) "EtchedPlate$Plate" "workedSincePrint" "Z") ∈ lw_g := List.mem_filter.mpr ⟨List.mem_of_getElem? (i := 72) rfl, rfl⟩
theorem q_73 : (Cond.laysFinal "EtchedPlate$Plate" "EtchedPlate$Plate" "depths" "[I") ∈ lw_g := List.mem_filter.mpr ⟨List.mem_of_getElem? (i := 73) rfl, rfl⟩
theorem q_75 : (Cond.laysFinal "EtchedPlate$Plate" "EtchedPlate$Plate" "printStates" "[I") ∈ lw_g := List.mem_filter.mpr ⟨List.mem_of_getElem? (i := 75) rfl, rfl⟩
theorem q_77 : (Cond.laysFinal "EtchedPlate$Plate" "EtchedPlate$Plate" "printTones" "[I") ∈ lw_g := List.mem_filter.mpr ⟨List.mem_of_getElem? (i := 77) rfl, rfl⟩
theorem q_79 : (Cond.lays "EtchedPlate$Plate" "EtchedPlate$Plate" "lineCount" "I") ∈ lw_g := List.mem_filter.mpr ⟨List.mem_of_getElem? (i := 79) rfl, rfl⟩
theorem q_81 : (Cond.lays "EtchedPlate$Plate" "EtchedPlate$Plate" "varnishedLines" "I") ∈ lw_g := List.mem_filter.mpr ⟨List.mem_of_getElem? (i := 81) rfl, rfl⟩
theorem q_83 : (Cond.lays "EtchedPlate$Plate" "EtchedPlate$Plate" "strength" "I") ∈ lw_g := List.mem_filter.mpr ⟨List.mem_of_getElem? (i := 83) rfl, rfl⟩
theorem q_85 : (Cond.lays "EtchedPlate$Plate" "EtchedPlate$Plate" "printCount" "I") ∈ lw_g := List.mem_filter.mpr ⟨List.mem_of_getElem? (i := 85) rfl, rfl⟩
theorem q_87 : (Cond.lays "EtchedPlate$Plate" "EtchedPlate$Plate" "stateNumber" "I") ∈ lw_g := List.mem_filter.mpr ⟨List.mem_of_getElem? (i := 87) rfl, rfl⟩
theorem q_89 : (Cond.lays "EtchedPlate$Plate" "EtchedPlate$Plate" "workedSincePrint" "Z") ∈ lw_g := List.mem_filter.mpr ⟨List.mem_of_getElem? (i := 89) rfl, rfl⟩
theorem q_92 : (Cond.arrayClass Jvm.ClassFile.FieldType.int) ∈ lw_g := List.mem_filter.mpr ⟨List.mem_of_getElem? (i := 92) rfl, rfl⟩
theorem q_93 : (Cond.arrayOver (Jvm.ClassFile.FieldType.object "EtchedPlate$Plate")) ∈ lw_tbl := List.mem_of_getElem? (i := 93) rfl
theorem q_94 : (Cond.classLink "EtchedPlate" (20 : Nat) "EtchedPlate$Plan") ∈ lw_g := List.mem_filter.mpr ⟨List.mem_of_getElem? (i := 94) rfl, rfl⟩
theorem q_95 : (Cond.instantiable "EtchedPlate$Plan" (6 : Nat)) ∈ lw_g := List.mem_filter.mpr ⟨List.mem_of_getElem? (i := 95) rfl, rfl⟩
theorem q_96 : (Cond.methodLinkNest "EtchedPlate" (22 : Nat) ({ cls := "EtchedPlate$Plan", name := "<init>", desc := "()V" } : Jvm.MethodName) "EtchedPlate") ∈ lw_tbl := List.mem_of_getElem? (i := 96) rfl
theorem q_97 : (Cond.instanceMethod ({ cls := "EtchedPlate$Plan", name := "<init>", desc := "()V" } : Jvm.MethodName)) ∈ lw_g := List.mem_filter.mpr ⟨List.mem_of_getElem? (i := 97) rfl, rfl⟩
theorem q_98 : (Cond.code ({ cls := "EtchedPlate$Plan", name := "<init>", desc := "()V" } : Jvm.MethodName) prog_2_method_1_code (1 : Nat) (Option.none : Option Jvm.ClassFile.FieldType)) ∈ lw_g := List.mem_filter.mpr ⟨List.mem_of_getElem? (i := 98) rfl, rfl⟩
theorem q_99 : (Cond.methodLink "EtchedPlate$Plan" (3 : Nat) ({ cls := "java/lang/Object", name := "<init>", desc := "()V" } : Jvm.MethodName)) ∈ lw_g := List.mem_filter.mpr ⟨List.mem_of_getElem? (i := 99) rfl, rfl⟩
theorem q_100 : (Cond.fieldLink "EtchedPlate$Plan" (9 : Nat) "EtchedPlate$Plan" "fewest" "[I") ∈ lw_g := List.mem_filter.mpr ⟨List.mem_of_getElem? (i := 100) rfl, rfl⟩
theorem q_101 : (Cond.fieldLink "EtchedPlate$Plan" (15 : Nat) "EtchedPlate$Plan" "most" "[I") ∈ lw_g := List.mem_filter.mpr ⟨List.mem_of_getElem? (i := 101) rfl, rfl⟩
theorem q_102 : (Cond.fieldLink "EtchedPlate$Plan" (18 : Nat) "EtchedPlate$Plan" "totals" "[I") ∈ lw_g := List.mem_filter.mpr ⟨List.mem_of_getElem? (i := 102) rfl, rfl⟩
theorem q_103 : (Cond.fieldLink "EtchedPlate$Plan" (21 : Nat) "EtchedPlate$Plan" "lineCount" "I") ∈ lw_g := List.mem_filter.mpr ⟨List.mem_of_getElem? (i := 103) rfl, rfl⟩
theorem q_104 : (Cond.fieldLink "EtchedPlate$Plan" (25 : Nat) "EtchedPlate$Plan" "totalCount" "I") ∈ lw_g := List.mem_filter.mpr ⟨List.mem_of_getElem? (i := 104) rfl, rfl⟩
theorem q_105 : (Cond.fieldLink "EtchedPlate" (120 : Nat) "EtchedPlate$Plan" "totalCount" "I") ∈ lw_g := List.mem_filter.mpr ⟨List.mem_of_getElem? (i := 105) rfl, rfl⟩
theorem q_106 : (Cond.fieldLink "EtchedPlate$Plan" (28 : Nat) "EtchedPlate$Plan" "blockedLines" "I") ∈ lw_g := List.mem_filter.mpr ⟨List.mem_of_getElem? (i := 106) rfl, rfl⟩
theorem q_107 : (Cond.fieldLink "EtchedPlate" (117 : Nat) "EtchedPlate$Plan" "blockedLines" "I") ∈ lw_g := List.mem_filter.mpr ⟨List.mem_of_getElem? (i := 107) rfl, rfl⟩
theorem q_108 : (Cond.laysFinal "EtchedPlate$Plan" "EtchedPlate$Plan" "fewest" "[I") ∈ lw_g := List.mem_filter.mpr ⟨List.mem_of_getElem? (i := 108) rfl, rfl⟩
theorem q_110 : (Cond.laysFinal "EtchedPlate$Plan" "EtchedPlate$Plan" "most" "[I") ∈ lw_g := List.mem_filter.mpr ⟨List.mem_of_getElem? (i := 110) rfl, rfl⟩
theorem q_112 : (Cond.laysFinal "EtchedPlate$Plan" "EtchedPlate$Plan" "totals" "[I") ∈ lw_g := List.mem_filter.mpr ⟨List.mem_of_getElem? (i := 112) rfl, rfl⟩
theorem q_114 : (Cond.lays "EtchedPlate$Plan" "EtchedPlate$Plan" "lineCount" "I") ∈ lw_g := List.mem_filter.mpr ⟨List.mem_of_getElem? (i := 114) rfl, rfl⟩
theorem q_116 : (Cond.lays "EtchedPlate$Plan" "EtchedPlate$Plan" "totalCount" "I") ∈ lw_g := List.mem_filter.mpr ⟨List.mem_of_getElem? (i := 116) rfl, rfl⟩
theorem q_118 : (Cond.lays "EtchedPlate$Plan" "EtchedPlate$Plan" "blockedLines" "I") ∈ lw_g := List.mem_filter.mpr ⟨List.mem_of_getElem? (i := 118) rfl, rfl⟩
theorem q_121 : (Cond.fieldLink "EtchedPlate" (10 : Nat) "EtchedPlate" "now" "LEtchedPlate$Plate;") ∈ lw_g := List.mem_filter.mpr ⟨List.mem_of_getElem? (i := 121) rfl, rfl⟩
theorem q_122 : (Cond.fieldLink "EtchedPlate" (16 : Nat) "EtchedPlate" "saved" "[LEtchedPlate$Plate;") ∈ lw_g := List.mem_filter.mpr ⟨List.mem_of_getElem? (i := 122) rfl, rfl⟩
theorem q_123 : (Cond.fieldLink "EtchedPlate" (23 : Nat) "EtchedPlate" "plan" "LEtchedPlate$Plan;") ∈ lw_g := List.mem_filter.mpr ⟨List.mem_of_getElem? (i := 123) rfl, rfl⟩
theorem q_124 : (Cond.fieldLink "EtchedPlate" (27 : Nat) "EtchedPlate" "targets" "[I") ∈ lw_g := List.mem_filter.mpr ⟨List.mem_of_getElem? (i := 124) rfl, rfl⟩
theorem q_125 : (Cond.fieldLink "EtchedPlate" (31 : Nat) "EtchedPlate" "errors" "[I") ∈ lw_g := List.mem_filter.mpr ⟨List.mem_of_getElem? (i := 125) rfl, rfl⟩
theorem q_126 : (Cond.fieldLink "EtchedPlate" (34 : Nat) "EtchedPlate" "savedCount" "I") ∈ lw_g := List.mem_filter.mpr ⟨List.mem_of_getElem? (i := 126) rfl, rfl⟩
theorem q_127 : (Cond.laysFinal "EtchedPlate" "EtchedPlate" "now" "LEtchedPlate$Plate;") ∈ lw_g := List.mem_filter.mpr ⟨List.mem_of_getElem? (i := 127) rfl, rfl⟩
theorem q_129 : (Cond.laysFinal "EtchedPlate" "EtchedPlate" "saved" "[LEtchedPlate$Plate;") ∈ lw_g := List.mem_filter.mpr ⟨List.mem_of_getElem? (i := 129) rfl, rfl⟩
theorem q_131 : (Cond.laysFinal "EtchedPlate" "EtchedPlate" "plan" "LEtchedPlate$Plan;") ∈ lw_g := List.mem_filter.mpr ⟨List.mem_of_getElem? (i := 131) rfl, rfl⟩
theorem q_133 : (Cond.laysFinal "EtchedPlate" "EtchedPlate" "targets" "[I") ∈ lw_g := List.mem_filter.mpr ⟨List.mem_of_getElem? (i := 133) rfl, rfl⟩
theorem q_135 : (Cond.laysFinal "EtchedPlate" "EtchedPlate" "errors" "[I") ∈ lw_g := List.mem_filter.mpr ⟨List.mem_of_getElem? (i := 135) rfl, rfl⟩
theorem q_137 : (Cond.lays "EtchedPlate" "EtchedPlate" "savedCount" "I") ∈ lw_g := List.mem_filter.mpr ⟨List.mem_of_getElem? (i := 137) rfl, rfl⟩
theorem q_140 : (Cond.methodLink "EtchedPlateLaw" (13 : Nat) ({ cls := "EtchedPlate", name := "draw", desc := "()I" } : Jvm.MethodName)) ∈ lw_g := List.mem_filter.mpr ⟨List.mem_of_getElem? (i := 140) rfl, rfl⟩
theorem q_141 : (Cond.instanceMethod ({ cls := "EtchedPlate", name := "draw", desc := "()I" } : Jvm.MethodName)) ∈ lw_g := List.mem_filter.mpr ⟨List.mem_of_getElem? (i := 141) rfl, rfl⟩
theorem q_142 : (Cond.selects "EtchedPlate" ({ cls := "EtchedPlate", name := "draw", desc := "()I" } : Jvm.MethodName) ({ cls := "EtchedPlate", name := "draw", desc := "()I" } : Jvm.MethodName)) ∈ lw_g := List.mem_filter.mpr ⟨List.mem_of_getElem? (i := 142) rfl, rfl⟩
theorem q_143 : (Cond.code ({ cls := "EtchedPlate", name := "draw", desc := "()I" } : Jvm.MethodName) prog_1_method_2_code (1 : Nat) (Option.some Jvm.ClassFile.FieldType.int)) ∈ lw_g := List.mem_filter.mpr ⟨List.mem_of_getElem? (i := 143) rfl, rfl⟩
theorem q_144 : (Cond.methodLink "EtchedPlate" (41 : Nat) ({ cls := "EtchedPlate", name := "refuse", desc := "(I)I" } : Jvm.MethodName)) ∈ lw_g := List.mem_filter.mpr ⟨List.mem_of_getElem? (i := 144) rfl, rfl⟩
theorem q_146 : (Cond.instanceMethod ({ cls := "EtchedPlate", name := "refuse", desc := "(I)I" } : Jvm.MethodName)) ∈ lw_g := List.mem_filter.mpr ⟨List.mem_of_getElem? (i := 146) rfl, rfl⟩
theorem q_147 : (Cond.code ({ cls := "EtchedPlate", name := "refuse", desc := "(I)I" } : Jvm.MethodName) prog_1_method_31_code (2 : Nat) (Option.some Jvm.ClassFile.FieldType.int)) ∈ lw_g := List.mem_filter.mpr ⟨List.mem_of_getElem? (i := 147) rfl, rfl⟩
theorem q_148 : (Cond.methodLink "EtchedPlate" (45 : Nat) ({ cls := "EtchedPlate", name := "save", desc := "()V" } : Jvm.MethodName)) ∈ lw_g := List.mem_filter.mpr ⟨List.mem_of_getElem? (i := 148) rfl, rfl⟩
theorem q_150 : (Cond.instanceMethod ({ cls := "EtchedPlate", name := "save", desc := "()V" } : Jvm.MethodName)) ∈ lw_g := List.mem_filter.mpr ⟨List.mem_of_getElem? (i := 150) rfl, rfl⟩
theorem q_151 : (Cond.code ({ cls := "EtchedPlate", name := "save", desc := "()V" } : Jvm.MethodName) prog_1_method_38_code (1 : Nat) (Option.none : Option Jvm.ClassFile.FieldType)) ∈ lw_g := List.mem_filter.mpr ⟨List.mem_of_getElem? (i := 151) rfl, rfl⟩
theorem q_152 : (Cond.methodLink "EtchedPlate" (157 : Nat) ({ cls := "EtchedPlate", name := "dropOldest", desc := "()V" } : Jvm.MethodName)) ∈ lw_g := List.mem_filter.mpr ⟨List.mem_of_getElem? (i := 152) rfl, rfl⟩
theorem q_154 : (Cond.instanceMethod ({ cls := "EtchedPlate", name := "dropOldest", desc := "()V" } : Jvm.MethodName)) ∈ lw_g := List.mem_filter.mpr ⟨List.mem_of_getElem? (i := 154) rfl, rfl⟩
theorem q_155 : (Cond.code ({ cls := "EtchedPlate", name := "dropOldest", desc := "()V" } : Jvm.MethodName) prog_1_method_39_code (3 : Nat) (Option.none : Option Jvm.ClassFile.FieldType)) ∈ lw_g := List.mem_filter.mpr ⟨List.mem_of_getElem? (i := 155) rfl, rfl⟩
theorem q_156 : (Cond.methodLink "EtchedPlate" (132 : Nat) ({ cls := "EtchedPlate$Plate", name := "copyFrom", desc := "(LEtchedPlate$Plate;)V" } : Jvm.MethodName)) ∈ lw_g := List.mem_filter.mpr ⟨List.mem_of_getElem? (i := 156) rfl, rfl⟩
theorem q_157 : (Cond.instanceMethod ({ cls := "EtchedPlate$Plate", name := "copyFrom", desc := "(LEtchedPlate$Plate;)V" } : Jvm.MethodName)) ∈ lw_g := List.mem_filter.mpr ⟨List.mem_of_getElem? (i := 157) rfl, rfl⟩
theorem q_158 : (Cond.selects "EtchedPlate$Plate" ({ cls := "EtchedPlate$Plate", name := "copyFrom", desc := "(LEtchedPlate$Plate;)V" } : Jvm.MethodName) ({ cls := "EtchedPlate$Plate", name := "copyFrom", desc := "(LEtchedPlate$Plate;)V" } : Jvm.MethodName)) ∈ lw_g := List.mem_filter.mpr ⟨List.mem_of_getElem? (i := 158) rfl, rfl⟩
theorem q_159 : (Cond.code ({ cls := "EtchedPlate$Plate", name := "copyFrom", desc := "(LEtchedPlate$Plate;)V" } : Jvm.MethodName) prog_3_method_2_code (2 : Nat) (Option.none : Option Jvm.ClassFile.FieldType)) ∈ lw_g := List.mem_filter.mpr ⟨List.mem_of_getElem? (i := 159) rfl, rfl⟩
theorem q_160 : (Cond.methodLink "EtchedPlate$Plate" (41 : Nat) ({ cls := "java/lang/System", name := "arraycopy", desc := "(Ljava/lang/Object;ILjava/lang/Object;II)V" } : Jvm.MethodName)) ∈ lw_g := List.mem_filter.mpr ⟨List.mem_of_getElem? (i := 160) rfl, rfl⟩
theorem q_161 : (Cond.static ({ cls := "java/lang/System", name := "arraycopy", desc := "(Ljava/lang/Object;ILjava/lang/Object;II)V" } : Jvm.MethodName)) ∈ lw_g := List.mem_filter.mpr ⟨List.mem_of_getElem? (i := 161) rfl, rfl⟩
theorem q_162 : (Cond.native ({ cls := "java/lang/System", name := "arraycopy", desc := "(Ljava/lang/Object;ILjava/lang/Object;II)V" } : Jvm.MethodName)) ∈ lw_g := List.mem_filter.mpr ⟨List.mem_of_getElem? (i := 162) rfl, rfl⟩
theorem q_163 : (Cond.methodLink "EtchedPlate" (48 : Nat) ({ cls := "EtchedPlate$Plate", name := "addLine", desc := "()I" } : Jvm.MethodName)) ∈ lw_g := List.mem_filter.mpr ⟨List.mem_of_getElem? (i := 163) rfl, rfl⟩
theorem q_164 : (Cond.instanceMethod ({ cls := "EtchedPlate$Plate", name := "addLine", desc := "()I" } : Jvm.MethodName)) ∈ lw_g := List.mem_filter.mpr ⟨List.mem_of_getElem? (i := 164) rfl, rfl⟩
theorem q_165 : (Cond.selects "EtchedPlate$Plate" ({ cls := "EtchedPlate$Plate", name := "addLine", desc := "()I" } : Jvm.MethodName) ({ cls := "EtchedPlate$Plate", name := "addLine", desc := "()I" } : Jvm.MethodName)) ∈ lw_g := List.mem_filter.mpr ⟨List.mem_of_getElem? (i := 165) rfl, rfl⟩
theorem q_166 : (Cond.code ({ cls := "EtchedPlate$Plate", name := "addLine", desc := "()I" } : Jvm.MethodName) prog_3_method_3_code (2 : Nat) (Option.some Jvm.ClassFile.FieldType.int)) ∈ lw_g := List.mem_filter.mpr ⟨List.mem_of_getElem? (i := 166) rfl, rfl⟩
theorem q_167 : (Cond.methodLink "EtchedPlateLaw" (18 : Nat) ({ cls := "EtchedPlate", name := "setStrength", desc := "(I)I" } : Jvm.MethodName)) ∈ lw_g := List.mem_filter.mpr ⟨List.mem_of_getElem? (i := 167) rfl, rfl⟩
theorem q_168 : (Cond.instanceMethod ({ cls := "EtchedPlate", name := "setStrength", desc := "(I)I" } : Jvm.MethodName)) ∈ lw_g := List.mem_filter.mpr ⟨List.mem_of_getElem? (i := 168) rfl, rfl⟩
theorem q_169 : (Cond.selects "EtchedPlate" ({ cls := "EtchedPlate", name := "setStrength", desc := "(I)I" } : Jvm.MethodName) ({ cls := "EtchedPlate", name := "setStrength", desc := "(I)I" } : Jvm.MethodName)) ∈ lw_g := List.mem_filter.mpr ⟨List.mem_of_getElem? (i := 169) rfl, rfl⟩
theorem q_170 : (Cond.code ({ cls := "EtchedPlate", name := "setStrength", desc := "(I)I" } : Jvm.MethodName) prog_1_method_3_code (3 : Nat) (Option.some Jvm.ClassFile.FieldType.int)) ∈ lw_g := List.mem_filter.mpr ⟨List.mem_of_getElem? (i := 170) rfl, rfl⟩
theorem q_171 : (Cond.methodLink "EtchedPlateLaw" (23 : Nat) ({ cls := "EtchedPlate", name := "dip", desc := "(I)I" } : Jvm.MethodName)) ∈ lw_g := List.mem_filter.mpr ⟨List.mem_of_getElem? (i := 171) rfl, rfl⟩
theorem q_172 : (Cond.instanceMethod ({ cls := "EtchedPlate", name := "dip", desc := "(I)I" } : Jvm.MethodName)) ∈ lw_g := List.mem_filter.mpr ⟨List.mem_of_getElem? (i := 172) rfl, rfl⟩
theorem q_173 : (Cond.selects "EtchedPlate" ({ cls := "EtchedPlate", name := "dip", desc := "(I)I" } : Jvm.MethodName) ({ cls := "EtchedPlate", name := "dip", desc := "(I)I" } : Jvm.MethodName)) ∈ lw_g := List.mem_filter.mpr ⟨List.mem_of_getElem? (i := 173) rfl, rfl⟩
theorem q_174 : (Cond.code ({ cls := "EtchedPlate", name := "dip", desc := "(I)I" } : Jvm.MethodName) prog_1_method_4_code (2 : Nat) (Option.some Jvm.ClassFile.FieldType.int)) ∈ lw_g := List.mem_filter.mpr ⟨List.mem_of_getElem? (i := 174) rfl, rfl⟩
theorem q_175 : (Cond.methodLink "EtchedPlate" (55 : Nat) ({ cls := "EtchedPlate$Plate", name := "etch", desc := "(I)I" } : Jvm.MethodName)) ∈ lw_g := List.mem_filter.mpr ⟨List.mem_of_getElem? (i := 175) rfl, rfl⟩
theorem q_176 : (Cond.instanceMethod ({ cls := "EtchedPlate$Plate", name := "etch", desc := "(I)I" } : Jvm.MethodName)) ∈ lw_g := List.mem_filter.mpr ⟨List.mem_of_getElem? (i := 176) rfl, rfl⟩
theorem q_177 : (Cond.selects "EtchedPlate$Plate" ({ cls := "EtchedPlate$Plate", name := "etch", desc := "(I)I" } : Jvm.MethodName) ({ cls := "EtchedPlate$Plate", name := "etch", desc := "(I)I" } : Jvm.MethodName)) ∈ lw_g := List.mem_filter.mpr ⟨List.mem_of_getElem? (i := 177) rfl, rfl⟩
theorem q_178 : (Cond.code ({ cls := "EtchedPlate$Plate", name := "etch", desc := "(I)I" } : Jvm.MethodName) prog_3_method_4_code (5 : Nat) (Option.some Jvm.ClassFile.FieldType.int)) ∈ lw_g := List.mem_filter.mpr ⟨List.mem_of_getElem? (i := 178) rfl, rfl⟩
theorem q_179 : (Cond.methodLinkNest "EtchedPlate$Plate" (47 : Nat) ({ cls := "EtchedPlate", name := "contains", desc := "(II)Z" } : Jvm.MethodName) "EtchedPlate") ∈ lw_tbl := List.mem_of_getElem? (i := 179) rfl
theorem q_180 : (Cond.static ({ cls := "EtchedPlate", name := "contains", desc := "(II)Z" } : Jvm.MethodName)) ∈ lw_g := List.mem_filter.mpr ⟨List.mem_of_getElem? (i := 180) rfl, rfl⟩
theorem q_181 : (Cond.code ({ cls := "EtchedPlate", name := "contains", desc := "(II)Z" } : Jvm.MethodName) prog_1_method_37_code (2 : Nat) (Option.some Jvm.ClassFile.FieldType.boolean)) ∈ lw_g := List.mem_filter.mpr ⟨List.mem_of_getElem? (i := 181) rfl, rfl⟩
theorem q_182 : (Cond.methodLink "EtchedPlate$Plate" (51 : Nat) ({ cls := "java/lang/Math", name := "min", desc := "(II)I" } : Jvm.MethodName)) ∈ lw_g := List.mem_filter.mpr ⟨List.mem_of_getElem? (i := 182) rfl, rfl⟩
theorem q_183 : (Cond.static ({ cls := "java/lang/Math", name := "min", desc := "(II)I" } : Jvm.MethodName)) ∈ lw_g := List.mem_filter.mpr ⟨List.mem_of_getElem? (i := 183) rfl, rfl⟩
theorem q_184 : (Cond.code ({ cls := "java/lang/Math", name := "min", desc := "(II)I" } : Jvm.MethodName) prog_8_method_69_code (2 : Nat) (Option.some Jvm.ClassFile.FieldType.int)) ∈ lw_g := List.mem_filter.mpr ⟨List.mem_of_getElem? (i := 184) rfl, rfl⟩
theorem q_185 : (Cond.methodLink "EtchedPlateLaw" (27 : Nat) ({ cls := "EtchedPlate", name := "varnish", desc := "(I)I" } : Jvm.MethodName)) ∈ lw_g := List.mem_filter.mpr ⟨List.mem_of_getElem? (i := 185) rfl, rfl⟩
theorem q_186 : (Cond.instanceMethod ({ cls := "EtchedPlate", name := "varnish", desc := "(I)I" } : Jvm.MethodName)) ∈ lw_g := List.mem_filter.mpr ⟨List.mem_of_getElem? (i := 186) rfl, rfl⟩
theorem q_187 : (Cond.selects "EtchedPlate" ({ cls := "EtchedPlate", name := "varnish", desc := "(I)I" } : Jvm.MethodName) ({ cls := "EtchedPlate", name := "varnish", desc := "(I)I" } : Jvm.MethodName)) ∈ lw_g := List.mem_filter.mpr ⟨List.mem_of_getElem? (i := 187) rfl, rfl⟩
theorem q_188 : (Cond.code ({ cls := "EtchedPlate", name := "varnish", desc := "(I)I" } : Jvm.MethodName) prog_1_method_5_code (2 : Nat) (Option.some Jvm.ClassFile.FieldType.int)) ∈ lw_g := List.mem_filter.mpr ⟨List.mem_of_getElem? (i := 188) rfl, rfl⟩
theorem q_189 : (Cond.methodLink "EtchedPlate" (58 : Nat) ({ cls := "EtchedPlate", name := "isSetBelow", desc := "(II)Z" } : Jvm.MethodName)) ∈ lw_g := List.mem_filter.mpr ⟨List.mem_of_getElem? (i := 189) rfl, rfl⟩
theorem q_190 : (Cond.static ({ cls := "EtchedPlate", name := "isSetBelow", desc := "(II)Z" } : Jvm.MethodName)) ∈ lw_g := List.mem_filter.mpr ⟨List.mem_of_getElem? (i := 190) rfl, rfl⟩
theorem q_191 : (Cond.code ({ cls := "EtchedPlate", name := "isSetBelow", desc := "(II)Z" } : Jvm.MethodName) prog_1_method_36_code (2 : Nat) (Option.some Jvm.ClassFile.FieldType.boolean)) ∈ lw_g := List.mem_filter.mpr ⟨List.mem_of_getElem? (i := 191) rfl, rfl⟩
theorem q_192 : (Cond.methodLink "EtchedPlate" (152 : Nat) ({ cls := "EtchedPlate", name := "allBelow", desc := "(I)I" } : Jvm.MethodName)) ∈ lw_g := List.mem_filter.mpr ⟨List.mem_of_getElem? (i := 192) rfl, rfl⟩
theorem q_193 : (Cond.static ({ cls := "EtchedPlate", name := "allBelow", desc := "(I)I" } : Jvm.MethodName)) ∈ lw_g := List.mem_filter.mpr ⟨List.mem_of_getElem? (i := 193) rfl, rfl⟩
theorem q_194 : (Cond.code ({ cls := "EtchedPlate", name := "allBelow", desc := "(I)I" } : Jvm.MethodName) prog_1_method_35_code (1 : Nat) (Option.some Jvm.ClassFile.FieldType.int)) ∈ lw_g := List.mem_filter.mpr ⟨List.mem_of_getElem? (i := 194) rfl, rfl⟩
theorem q_195 : (Cond.methodLink "EtchedPlate" (65 : Nat) ({ cls := "java/lang/Integer", name := "bitCount", desc := "(I)I" } : Jvm.MethodName)) ∈ lw_g := List.mem_filter.mpr ⟨List.mem_of_getElem? (i := 195) rfl, rfl⟩
theorem q_196 : (Cond.static ({ cls := "java/lang/Integer", name := "bitCount", desc := "(I)I" } : Jvm.MethodName)) ∈ lw_g := List.mem_filter.mpr ⟨List.mem_of_getElem? (i := 196) rfl, rfl⟩
theorem q_197 : (Cond.code ({ cls := "java/lang/Integer", name := "bitCount", desc := "(I)I" } : Jvm.MethodName) prog_7_method_49_code (1 : Nat) (Option.some Jvm.ClassFile.FieldType.int)) ∈ lw_g := List.mem_filter.mpr ⟨List.mem_of_getElem? (i := 197) rfl, rfl⟩
theorem q_198 : (Cond.constant "java/lang/Integer" (265 : Nat) (1431655765 : Int32)) ∈ lw_g := List.mem_filter.mpr ⟨List.mem_of_getElem? (i := 198) rfl, rfl⟩
theorem q_199 : (Cond.constant "java/lang/Integer" (266 : Nat) (858993459 : Int32)) ∈ lw_g := List.mem_filter.mpr ⟨List.mem_of_getElem? (i := 199) rfl, rfl⟩
theorem q_200 : (Cond.constant "java/lang/Integer" (267 : Nat) (252645135 : Int32)) ∈ lw_g := List.mem_filter.mpr ⟨List.mem_of_getElem? (i := 200) rfl, rfl⟩
theorem q_201 : (Cond.methodLink "EtchedPlateLaw" (31 : Nat) ({ cls := "EtchedPlate", name := "clean", desc := "()I" } : Jvm.MethodName)) ∈ lw_g := List.mem_filter.mpr ⟨List.mem_of_getElem? (i := 201) rfl, rfl⟩
theorem q_202 : (Cond.instanceMethod ({ cls := "EtchedPlate", name := "clean", desc := "()I" } : Jvm.MethodName)) ∈ lw_g := List.mem_filter.mpr ⟨List.mem_of_getElem? (i := 202) rfl, rfl⟩
theorem q_203 : (Cond.selects "EtchedPlate" ({ cls := "EtchedPlate", name := "clean", desc := "()I" } : Jvm.MethodName) ({ cls := "EtchedPlate", name := "clean", desc := "()I" } : Jvm.MethodName)) ∈ lw_g := List.mem_filter.mpr ⟨List.mem_of_getElem? (i := 203) rfl, rfl⟩
theorem q_204 : (Cond.code ({ cls := "EtchedPlate", name := "clean", desc := "()I" } : Jvm.MethodName) prog_1_method_6_code (2 : Nat) (Option.some Jvm.ClassFile.FieldType.int)) ∈ lw_g := List.mem_filter.mpr ⟨List.mem_of_getElem? (i := 204) rfl, rfl⟩
theorem q_205 : (Cond.methodLink "EtchedPlateLaw" (35 : Nat) ({ cls := "EtchedPlate", name := "burnish", desc := "(II)I" } : Jvm.MethodName)) ∈ lw_g := List.mem_filter.mpr ⟨List.mem_of_getElem? (i := 205) rfl, rfl⟩
theorem q_206 : (Cond.instanceMethod ({ cls := "EtchedPlate", name := "burnish", desc := "(II)I" } : Jvm.MethodName)) ∈ lw_g := List.mem_filter.mpr ⟨List.mem_of_getElem? (i := 206) rfl, rfl⟩
theorem q_207 : (Cond.selects "EtchedPlate" ({ cls := "EtchedPlate", name := "burnish", desc := "(II)I" } : Jvm.MethodName) ({ cls := "EtchedPlate", name := "burnish", desc := "(II)I" } : Jvm.MethodName)) ∈ lw_g := List.mem_filter.mpr ⟨List.mem_of_getElem? (i := 207) rfl, rfl⟩
theorem q_208 : (Cond.code ({ cls := "EtchedPlate", name := "burnish", desc := "(II)I" } : Jvm.MethodName) prog_1_method_7_code (3 : Nat) (Option.some Jvm.ClassFile.FieldType.int)) ∈ lw_g := List.mem_filter.mpr ⟨List.mem_of_getElem? (i := 208) rfl, rfl⟩
theorem q_209 : (Cond.methodLink "EtchedPlate" (70 : Nat) ({ cls := "EtchedPlate", name := "isLine", desc := "(I)Z" } : Jvm.MethodName)) ∈ lw_g := List.mem_filter.mpr ⟨List.mem_of_getElem? (i := 209) rfl, rfl⟩
theorem q_211 : (Cond.instanceMethod ({ cls := "EtchedPlate", name := "isLine", desc := "(I)Z" } : Jvm.MethodName)) ∈ lw_g := List.mem_filter.mpr ⟨List.mem_of_getElem? (i := 211) rfl, rfl⟩
theorem q_212 : (Cond.code ({ cls := "EtchedPlate", name := "isLine", desc := "(I)Z" } : Jvm.MethodName) prog_1_method_33_code (2 : Nat) (Option.some Jvm.ClassFile.FieldType.boolean)) ∈ lw_g := List.mem_filter.mpr ⟨List.mem_of_getElem? (i := 212) rfl, rfl⟩
theorem q_213 : (Cond.methodLink "EtchedPlate" (74 : Nat) ({ cls := "EtchedPlate$Plate", name := "rubDown", desc := "(II)I" } : Jvm.MethodName)) ∈ lw_g := List.mem_filter.mpr ⟨List.mem_of_getElem? (i := 213) rfl, rfl⟩
theorem q_214 : (Cond.instanceMethod ({ cls := "EtchedPlate$Plate", name := "rubDown", desc := "(II)I" } : Jvm.MethodName)) ∈ lw_g := List.mem_filter.mpr ⟨List.mem_of_getElem? (i := 214) rfl, rfl⟩
theorem q_215 : (Cond.selects "EtchedPlate$Plate" ({ cls := "EtchedPlate$Plate", name := "rubDown", desc := "(II)I" } : Jvm.MethodName) ({ cls := "EtchedPlate$Plate", name := "rubDown", desc := "(II)I" } : Jvm.MethodName)) ∈ lw_g := List.mem_filter.mpr ⟨List.mem_of_getElem? (i := 215) rfl, rfl⟩
theorem q_216 : (Cond.code ({ cls := "EtchedPlate$Plate", name := "rubDown", desc := "(II)I" } : Jvm.MethodName) prog_3_method_5_code (3 : Nat) (Option.some Jvm.ClassFile.FieldType.int)) ∈ lw_g := List.mem_filter.mpr ⟨List.mem_of_getElem? (i := 216) rfl, rfl⟩
theorem q_217 : (Cond.methodLink "EtchedPlate$Plate" (57 : Nat) ({ cls := "java/lang/Math", name := "max", desc := "(II)I" } : Jvm.MethodName)) ∈ lw_g := List.mem_filter.mpr ⟨List.mem_of_getElem? (i := 217) rfl, rfl⟩
theorem q_218 : (Cond.static ({ cls := "java/lang/Math", name := "max", desc := "(II)I" } : Jvm.MethodName)) ∈ lw_g := List.mem_filter.mpr ⟨List.mem_of_getElem? (i := 218) rfl, rfl⟩
theorem q_219 : (Cond.code ({ cls := "java/lang/Math", name := "max", desc := "(II)I" } : Jvm.MethodName) prog_8_method_65_code (2 : Nat) (Option.some Jvm.ClassFile.FieldType.int)) ∈ lw_g := List.mem_filter.mpr ⟨List.mem_of_getElem? (i := 219) rfl, rfl⟩
theorem q_220 : (Cond.methodLink "EtchedPlateLaw" (40 : Nat) ({ cls := "EtchedPlate", name := "pull", desc := "()I" } : Jvm.MethodName)) ∈ lw_g := List.mem_filter.mpr ⟨List.mem_of_getElem? (i := 220) rfl, rfl⟩
theorem q_221 : (Cond.instanceMethod ({ cls := "EtchedPlate", name := "pull", desc := "()I" } : Jvm.MethodName)) ∈ lw_g := List.mem_filter.mpr ⟨List.mem_of_getElem? (i := 221) rfl, rfl⟩
theorem q_222 : (Cond.selects "EtchedPlate" ({ cls := "EtchedPlate", name := "pull", desc := "()I" } : Jvm.MethodName) ({ cls := "EtchedPlate", name := "pull", desc := "()I" } : Jvm.MethodName)) ∈ lw_g := List.mem_filter.mpr ⟨List.mem_of_getElem? (i := 222) rfl, rfl⟩
theorem q_223 : (Cond.code ({ cls := "EtchedPlate", name := "pull", desc := "()I" } : Jvm.MethodName) prog_1_method_8_code (1 : Nat) (Option.some Jvm.ClassFile.FieldType.int)) ∈ lw_g := List.mem_filter.mpr ⟨List.mem_of_getElem? (i := 223) rfl, rfl⟩
theorem q_224 : (Cond.methodLink "EtchedPlate" (81 : Nat) ({ cls := "EtchedPlate$Plate", name := "addPrint", desc := "()I" } : Jvm.MethodName)) ∈ lw_g := List.mem_filter.mpr ⟨List.mem_of_getElem? (i := 224) rfl, rfl⟩
theorem q_225 : (Cond.instanceMethod ({ cls := "EtchedPlate$Plate", name := "addPrint", desc := "()I" } : Jvm.MethodName)) ∈ lw_g := List.mem_filter.mpr ⟨List.mem_of_getElem? (i := 225) rfl, rfl⟩
theorem q_226 : (Cond.selects "EtchedPlate$Plate" ({ cls := "EtchedPlate$Plate", name := "addPrint", desc := "()I" } : Jvm.MethodName) ({ cls := "EtchedPlate$Plate", name := "addPrint", desc := "()I" } : Jvm.MethodName)) ∈ lw_g := List.mem_filter.mpr ⟨List.mem_of_getElem? (i := 226) rfl, rfl⟩
theorem q_227 : (Cond.code ({ cls := "EtchedPlate$Plate", name := "addPrint", desc := "()I" } : Jvm.MethodName) prog_3_method_6_code (4 : Nat) (Option.some Jvm.ClassFile.FieldType.int)) ∈ lw_g := List.mem_filter.mpr ⟨List.mem_of_getElem? (i := 227) rfl, rfl⟩
theorem q_228 : (Cond.methodLink "EtchedPlate$Plate" (60 : Nat) ({ cls := "EtchedPlate$Plate", name := "wear", desc := "()V" } : Jvm.MethodName)) ∈ lw_g := List.mem_filter.mpr ⟨List.mem_of_getElem? (i := 228) rfl, rfl⟩
theorem q_230 : (Cond.instanceMethod ({ cls := "EtchedPlate$Plate", name := "wear", desc := "()V" } : Jvm.MethodName)) ∈ lw_g := List.mem_filter.mpr ⟨List.mem_of_getElem? (i := 230) rfl, rfl⟩
theorem q_231 : (Cond.code ({ cls := "EtchedPlate$Plate", name := "wear", desc := "()V" } : Jvm.MethodName) prog_3_method_7_code (2 : Nat) (Option.none : Option Jvm.ClassFile.FieldType)) ∈ lw_g := List.mem_filter.mpr ⟨List.mem_of_getElem? (i := 231) rfl, rfl⟩
theorem q_232 : (Cond.methodLink "EtchedPlateLaw" (44 : Nat) ({ cls := "EtchedPlate", name := "lines", desc := "()I" } : Jvm.MethodName)) ∈ lw_g := List.mem_filter.mpr ⟨List.mem_of_getElem? (i := 232) rfl, rfl⟩
theorem q_233 : (Cond.instanceMethod ({ cls := "EtchedPlate", name := "lines", desc := "()I" } : Jvm.MethodName)) ∈ lw_g := List.mem_filter.mpr ⟨List.mem_of_getElem? (i := 233) rfl, rfl⟩
theorem q_234 : (Cond.selects "EtchedPlate" ({ cls := "EtchedPlate", name := "lines", desc := "()I" } : Jvm.MethodName) ({ cls := "EtchedPlate", name := "lines", desc := "()I" } : Jvm.MethodName)) ∈ lw_g := List.mem_filter.mpr ⟨List.mem_of_getElem? (i := 234) rfl, rfl⟩
theorem q_235 : (Cond.code ({ cls := "EtchedPlate", name := "lines", desc := "()I" } : Jvm.MethodName) prog_1_method_9_code (1 : Nat) (Option.some Jvm.ClassFile.FieldType.int)) ∈ lw_g := List.mem_filter.mpr ⟨List.mem_of_getElem? (i := 235) rfl, rfl⟩
theorem q_236 : (Cond.methodLink "EtchedPlateLaw" (48 : Nat) ({ cls := "EtchedPlate", name := "depth", desc := "(I)I" } : Jvm.MethodName)) ∈ lw_g := List.mem_filter.mpr ⟨List.mem_of_getElem? (i := 236) rfl, rfl⟩
theorem q_237 : (Cond.instanceMethod ({ cls := "EtchedPlate", name := "depth", desc := "(I)I" } : Jvm.MethodName)) ∈ lw_g := List.mem_filter.mpr ⟨List.mem_of_getElem? (i := 237) rfl, rfl⟩
theorem q_238 : (Cond.selects "EtchedPlate" ({ cls := "EtchedPlate", name := "depth", desc := "(I)I" } : Jvm.MethodName) ({ cls := "EtchedPlate", name := "depth", desc := "(I)I" } : Jvm.MethodName)) ∈ lw_g := List.mem_filter.mpr ⟨List.mem_of_getElem? (i := 238) rfl, rfl⟩
theorem q_239 : (Cond.code ({ cls := "EtchedPlate", name := "depth", desc := "(I)I" } : Jvm.MethodName) prog_1_method_10_code (2 : Nat) (Option.some Jvm.ClassFile.FieldType.int)) ∈ lw_g := List.mem_filter.mpr ⟨List.mem_of_getElem? (i := 239) rfl, rfl⟩
theorem q_240 : (Cond.methodLink "EtchedPlateLaw" (52 : Nat) ({ cls := "EtchedPlate", name := "varnished", desc := "()I" } : Jvm.MethodName)) ∈ lw_g := List.mem_filter.mpr ⟨List.mem_of_getElem? (i := 240) rfl, rfl⟩
theorem q_241 : (Cond.instanceMethod ({ cls := "EtchedPlate", name := "varnished", desc := "()I" } : Jvm.MethodName)) ∈ lw_g := List.mem_filter.mpr ⟨List.mem_of_getElem? (i := 241) rfl, rfl⟩
theorem q_242 : (Cond.selects "EtchedPlate" ({ cls := "EtchedPlate", name := "varnished", desc := "()I" } : Jvm.MethodName) ({ cls := "EtchedPlate", name := "varnished", desc := "()I" } : Jvm.MethodName)) ∈ lw_g := List.mem_filter.mpr ⟨List.mem_of_getElem? (i := 242) rfl, rfl⟩
theorem q_243 : (Cond.code ({ cls := "EtchedPlate", name := "varnished", desc := "()I" } : Jvm.MethodName) prog_1_method_11_code (1 : Nat) (Option.some Jvm.ClassFile.FieldType.int)) ∈ lw_g := List.mem_filter.mpr ⟨List.mem_of_getElem? (i := 243) rfl, rfl⟩
theorem q_244 : (Cond.methodLink "EtchedPlateLaw" (56 : Nat) ({ cls := "EtchedPlate", name := "meanDepthBits", desc := "()I" } : Jvm.MethodName)) ∈ lw_g := List.mem_filter.mpr ⟨List.mem_of_getElem? (i := 244) rfl, rfl⟩
theorem q_245 : (Cond.instanceMethod ({ cls := "EtchedPlate", name := "meanDepthBits", desc := "()I" } : Jvm.MethodName)) ∈ lw_g := List.mem_filter.mpr ⟨List.mem_of_getElem? (i := 245) rfl, rfl⟩
theorem q_246 : (Cond.selects "EtchedPlate" ({ cls := "EtchedPlate", name := "meanDepthBits", desc := "()I" } : Jvm.MethodName) ({ cls := "EtchedPlate", name := "meanDepthBits", desc := "()I" } : Jvm.MethodName)) ∈ lw_g := List.mem_filter.mpr ⟨List.mem_of_getElem? (i := 246) rfl, rfl⟩
theorem q_247 : (Cond.code ({ cls := "EtchedPlate", name := "meanDepthBits", desc := "()I" } : Jvm.MethodName) prog_1_method_12_code (2 : Nat) (Option.some Jvm.ClassFile.FieldType.int)) ∈ lw_g := List.mem_filter.mpr ⟨List.mem_of_getElem? (i := 247) rfl, rfl⟩
theorem q_248 : (Cond.methodLink "EtchedPlate" (87 : Nat) ({ cls := "EtchedPlate$Plate", name := "depthSum", desc := "()I" } : Jvm.MethodName)) ∈ lw_g := List.mem_filter.mpr ⟨List.mem_of_getElem? (i := 248) rfl, rfl⟩
theorem q_249 : (Cond.instanceMethod ({ cls := "EtchedPlate$Plate", name := "depthSum", desc := "()I" } : Jvm.MethodName)) ∈ lw_g := List.mem_filter.mpr ⟨List.mem_of_getElem? (i := 249) rfl, rfl⟩
theorem q_250 : (Cond.selects "EtchedPlate$Plate" ({ cls := "EtchedPlate$Plate", name := "depthSum", desc := "()I" } : Jvm.MethodName) ({ cls := "EtchedPlate$Plate", name := "depthSum", desc := "()I" } : Jvm.MethodName)) ∈ lw_g := List.mem_filter.mpr ⟨List.mem_of_getElem? (i := 250) rfl, rfl⟩
theorem q_251 : (Cond.code ({ cls := "EtchedPlate$Plate", name := "depthSum", desc := "()I" } : Jvm.MethodName) prog_3_method_8_code (3 : Nat) (Option.some Jvm.ClassFile.FieldType.int)) ∈ lw_g := List.mem_filter.mpr ⟨List.mem_of_getElem? (i := 251) rfl, rfl⟩
theorem q_252 : (Cond.methodLink "EtchedPlate" (90 : Nat) ({ cls := "EtchedPlate", name := "bitsOf", desc := "(F)I" } : Jvm.MethodName)) ∈ lw_g := List.mem_filter.mpr ⟨List.mem_of_getElem? (i := 252) rfl, rfl⟩
theorem q_253 : (Cond.static ({ cls := "EtchedPlate", name := "bitsOf", desc := "(F)I" } : Jvm.MethodName)) ∈ lw_g := List.mem_filter.mpr ⟨List.mem_of_getElem? (i := 253) rfl, rfl⟩
theorem q_254 : (Cond.code ({ cls := "EtchedPlate", name := "bitsOf", desc := "(F)I" } : Jvm.MethodName) prog_1_method_40_code (3 : Nat) (Option.some Jvm.ClassFile.FieldType.int)) ∈ lw_g := List.mem_filter.mpr ⟨List.mem_of_getElem? (i := 254) rfl, rfl⟩
theorem q_255 : (Cond.constantFloat "EtchedPlate" (160 : Nat) (1258291200 : UInt32)) ∈ lw_g := List.mem_filter.mpr ⟨List.mem_of_getElem? (i := 255) rfl, rfl⟩
theorem q_256 : (Cond.methodLink "EtchedPlateLaw" (60 : Nat) ({ cls := "EtchedPlate", name := "prints", desc := "()I" } : Jvm.MethodName)) ∈ lw_g := List.mem_filter.mpr ⟨List.mem_of_getElem? (i := 256) rfl, rfl⟩
theorem q_257 : (Cond.instanceMethod ({ cls := "EtchedPlate", name := "prints", desc := "()I" } : Jvm.MethodName)) ∈ lw_g := List.mem_filter.mpr ⟨List.mem_of_getElem? (i := 257) rfl, rfl⟩
theorem q_258 : (Cond.selects "EtchedPlate" ({ cls := "EtchedPlate", name := "prints", desc := "()I" } : Jvm.MethodName) ({ cls := "EtchedPlate", name := "prints", desc := "()I" } : Jvm.MethodName)) ∈ lw_g := List.mem_filter.mpr ⟨List.mem_of_getElem? (i := 258) rfl, rfl⟩
theorem q_259 : (Cond.code ({ cls := "EtchedPlate", name := "prints", desc := "()I" } : Jvm.MethodName) prog_1_method_13_code (1 : Nat) (Option.some Jvm.ClassFile.FieldType.int)) ∈ lw_g := List.mem_filter.mpr ⟨List.mem_of_getElem? (i := 259) rfl, rfl⟩
theorem q_260 : (Cond.methodLink "EtchedPlateLaw" (64 : Nat) ({ cls := "EtchedPlate", name := "stateOf", desc := "(I)I" } : Jvm.MethodName)) ∈ lw_g := List.mem_filter.mpr ⟨List.mem_of_getElem? (i := 260) rfl, rfl⟩
theorem q_261 : (Cond.instanceMethod ({ cls := "EtchedPlate", name := "stateOf", desc := "(I)I" } : Jvm.MethodName)) ∈ lw_g := List.mem_filter.mpr ⟨List.mem_of_getElem? (i := 261) rfl, rfl⟩
theorem q_262 : (Cond.selects "EtchedPlate" ({ cls := "EtchedPlate", name := "stateOf", desc := "(I)I" } : Jvm.MethodName) ({ cls := "EtchedPlate", name := "stateOf", desc := "(I)I" } : Jvm.MethodName)) ∈ lw_g := List.mem_filter.mpr ⟨List.mem_of_getElem? (i := 262) rfl, rfl⟩
theorem q_263 : (Cond.code ({ cls := "EtchedPlate", name := "stateOf", desc := "(I)I" } : Jvm.MethodName) prog_1_method_14_code (2 : Nat) (Option.some Jvm.ClassFile.FieldType.int)) ∈ lw_g := List.mem_filter.mpr ⟨List.mem_of_getElem? (i := 263) rfl, rfl⟩
theorem q_264 : (Cond.methodLink "EtchedPlate" (94 : Nat) ({ cls := "EtchedPlate", name := "isPrint", desc := "(I)Z" } : Jvm.MethodName)) ∈ lw_g := List.mem_filter.mpr ⟨List.mem_of_getElem? (i := 264) rfl, rfl⟩
theorem q_266 : (Cond.instanceMethod ({ cls := "EtchedPlate", name := "isPrint", desc := "(I)Z" } : Jvm.MethodName)) ∈ lw_g := List.mem_filter.mpr ⟨List.mem_of_getElem? (i := 266) rfl, rfl⟩
theorem q_267 : (Cond.code ({ cls := "EtchedPlate", name := "isPrint", desc := "(I)Z" } : Jvm.MethodName) prog_1_method_34_code (2 : Nat) (Option.some Jvm.ClassFile.FieldType.boolean)) ∈ lw_g := List.mem_filter.mpr ⟨List.mem_of_getElem? (i := 267) rfl, rfl⟩
theorem q_268 : (Cond.methodLink "EtchedPlateLaw" (68 : Nat) ({ cls := "EtchedPlate", name := "tone", desc := "(II)I" } : Jvm.MethodName)) ∈ lw_g := List.mem_filter.mpr ⟨List.mem_of_getElem? (i := 268) rfl, rfl⟩
theorem q_269 : (Cond.instanceMethod ({ cls := "EtchedPlate", name := "tone", desc := "(II)I" } : Jvm.MethodName)) ∈ lw_g := List.mem_filter.mpr ⟨List.mem_of_getElem? (i := 269) rfl, rfl⟩
theorem q_270 : (Cond.selects "EtchedPlate" ({ cls := "EtchedPlate", name := "tone", desc := "(II)I" } : Jvm.MethodName) ({ cls := "EtchedPlate", name := "tone", desc := "(II)I" } : Jvm.MethodName)) ∈ lw_g := List.mem_filter.mpr ⟨List.mem_of_getElem? (i := 270) rfl, rfl⟩
theorem q_271 : (Cond.code ({ cls := "EtchedPlate", name := "tone", desc := "(II)I" } : Jvm.MethodName) prog_1_method_15_code (3 : Nat) (Option.some Jvm.ClassFile.FieldType.int)) ∈ lw_g := List.mem_filter.mpr ⟨List.mem_of_getElem? (i := 271) rfl, rfl⟩
theorem q_272 : (Cond.methodLink "EtchedPlate" (100 : Nat) ({ cls := "EtchedPlate$Plate", name := "printedTone", desc := "(II)I" } : Jvm.MethodName)) ∈ lw_g := List.mem_filter.mpr ⟨List.mem_of_getElem? (i := 272) rfl, rfl⟩
theorem q_273 : (Cond.instanceMethod ({ cls := "EtchedPlate$Plate", name := "printedTone", desc := "(II)I" } : Jvm.MethodName)) ∈ lw_g := List.mem_filter.mpr ⟨List.mem_of_getElem? (i := 273) rfl, rfl⟩
theorem q_274 : (Cond.selects "EtchedPlate$Plate" ({ cls := "EtchedPlate$Plate", name := "printedTone", desc := "(II)I" } : Jvm.MethodName) ({ cls := "EtchedPlate$Plate", name := "printedTone", desc := "(II)I" } : Jvm.MethodName)) ∈ lw_g := List.mem_filter.mpr ⟨List.mem_of_getElem? (i := 274) rfl, rfl⟩
theorem q_275 : (Cond.code ({ cls := "EtchedPlate$Plate", name := "printedTone", desc := "(II)I" } : Jvm.MethodName) prog_3_method_9_code (3 : Nat) (Option.some Jvm.ClassFile.FieldType.int)) ∈ lw_g := List.mem_filter.mpr ⟨List.mem_of_getElem? (i := 275) rfl, rfl⟩
theorem q_276 : (Cond.methodLink "EtchedPlateLaw" (72 : Nat) ({ cls := "EtchedPlate", name := "mayPrecede", desc := "(II)I" } : Jvm.MethodName)) ∈ lw_g := List.mem_filter.mpr ⟨List.mem_of_getElem? (i := 276) rfl, rfl⟩
theorem q_277 : (Cond.instanceMethod ({ cls := "EtchedPlate", name := "mayPrecede", desc := "(II)I" } : Jvm.MethodName)) ∈ lw_g := List.mem_filter.mpr ⟨List.mem_of_getElem? (i := 277) rfl, rfl⟩
theorem q_278 : (Cond.selects "EtchedPlate" ({ cls := "EtchedPlate", name := "mayPrecede", desc := "(II)I" } : Jvm.MethodName) ({ cls := "EtchedPlate", name := "mayPrecede", desc := "(II)I" } : Jvm.MethodName)) ∈ lw_g := List.mem_filter.mpr ⟨List.mem_of_getElem? (i := 278) rfl, rfl⟩
theorem q_279 : (Cond.code ({ cls := "EtchedPlate", name := "mayPrecede", desc := "(II)I" } : Jvm.MethodName) prog_1_method_16_code (3 : Nat) (Option.some Jvm.ClassFile.FieldType.int)) ∈ lw_g := List.mem_filter.mpr ⟨List.mem_of_getElem? (i := 279) rfl, rfl⟩
theorem q_280 : (Cond.methodLink "EtchedPlate" (103 : Nat) ({ cls := "EtchedPlate$Plate", name := "nowhereDarker", desc := "(II)Z" } : Jvm.MethodName)) ∈ lw_g := List.mem_filter.mpr ⟨List.mem_of_getElem? (i := 280) rfl, rfl⟩
theorem q_281 : (Cond.instanceMethod ({ cls := "EtchedPlate$Plate", name := "nowhereDarker", desc := "(II)Z" } : Jvm.MethodName)) ∈ lw_g := List.mem_filter.mpr ⟨List.mem_of_getElem? (i := 281) rfl, rfl⟩
theorem q_282 : (Cond.selects "EtchedPlate$Plate" ({ cls := "EtchedPlate$Plate", name := "nowhereDarker", desc := "(II)Z" } : Jvm.MethodName) ({ cls := "EtchedPlate$Plate", name := "nowhereDarker", desc := "(II)Z" } : Jvm.MethodName)) ∈ lw_g := List.mem_filter.mpr ⟨List.mem_of_getElem? (i := 282) rfl, rfl⟩
theorem q_283 : (Cond.code ({ cls := "EtchedPlate$Plate", name := "nowhereDarker", desc := "(II)Z" } : Jvm.MethodName) prog_3_method_10_code (4 : Nat) (Option.some Jvm.ClassFile.FieldType.boolean)) ∈ lw_g := List.mem_filter.mpr ⟨List.mem_of_getElem? (i := 283) rfl, rfl⟩
theorem q_284 : (Cond.methodLink "EtchedPlate$Plate" (63 : Nat) ({ cls := "EtchedPlate$Plate", name := "printedTone", desc := "(II)I" } : Jvm.MethodName)) ∈ lw_g := List.mem_filter.mpr ⟨List.mem_of_getElem? (i := 284) rfl, rfl⟩
theorem q_285 : (Cond.methodLink "EtchedPlateLaw" (76 : Nat) ({ cls := "EtchedPlate", name := "orders", desc := "(I)I" } : Jvm.MethodName)) ∈ lw_g := List.mem_filter.mpr ⟨List.mem_of_getElem? (i := 285) rfl, rfl⟩
theorem q_286 : (Cond.instanceMethod ({ cls := "EtchedPlate", name := "orders", desc := "(I)I" } : Jvm.MethodName)) ∈ lw_g := List.mem_filter.mpr ⟨List.mem_of_getElem? (i := 286) rfl, rfl⟩
theorem q_287 : (Cond.selects "EtchedPlate" ({ cls := "EtchedPlate", name := "orders", desc := "(I)I" } : Jvm.MethodName) ({ cls := "EtchedPlate", name := "orders", desc := "(I)I" } : Jvm.MethodName)) ∈ lw_g := List.mem_filter.mpr ⟨List.mem_of_getElem? (i := 287) rfl, rfl⟩
theorem q_288 : (Cond.code ({ cls := "EtchedPlate", name := "orders", desc := "(I)I" } : Jvm.MethodName) prog_1_method_17_code (2 : Nat) (Option.some Jvm.ClassFile.FieldType.int)) ∈ lw_g := List.mem_filter.mpr ⟨List.mem_of_getElem? (i := 288) rfl, rfl⟩
theorem q_289 : (Cond.methodLink "EtchedPlate" (106 : Nat) ({ cls := "EtchedPlate$Plate", name := "countOrders", desc := "(I)I" } : Jvm.MethodName)) ∈ lw_g := List.mem_filter.mpr ⟨List.mem_of_getElem? (i := 289) rfl, rfl⟩
theorem q_290 : (Cond.instanceMethod ({ cls := "EtchedPlate$Plate", name := "countOrders", desc := "(I)I" } : Jvm.MethodName)) ∈ lw_g := List.mem_filter.mpr ⟨List.mem_of_getElem? (i := 290) rfl, rfl⟩
theorem q_291 : (Cond.selects "EtchedPlate$Plate" ({ cls := "EtchedPlate$Plate", name := "countOrders", desc := "(I)I" } : Jvm.MethodName) ({ cls := "EtchedPlate$Plate", name := "countOrders", desc := "(I)I" } : Jvm.MethodName)) ∈ lw_g := List.mem_filter.mpr ⟨List.mem_of_getElem? (i := 291) rfl, rfl⟩
theorem q_292 : (Cond.code ({ cls := "EtchedPlate$Plate", name := "countOrders", desc := "(I)I" } : Jvm.MethodName) prog_3_method_11_code (4 : Nat) (Option.some Jvm.ClassFile.FieldType.int)) ∈ lw_g := List.mem_filter.mpr ⟨List.mem_of_getElem? (i := 292) rfl, rfl⟩
theorem q_293 : (Cond.methodLink "EtchedPlate$Plate" (66 : Nat) ({ cls := "EtchedPlate$Plate", name := "placesAmongLikes", desc := "(II)I" } : Jvm.MethodName)) ∈ lw_g := List.mem_filter.mpr ⟨List.mem_of_getElem? (i := 293) rfl, rfl⟩
theorem q_295 : (Cond.instanceMethod ({ cls := "EtchedPlate$Plate", name := "placesAmongLikes", desc := "(II)I" } : Jvm.MethodName)) ∈ lw_g := List.mem_filter.mpr ⟨List.mem_of_getElem? (i := 295) rfl, rfl⟩
theorem q_296 : (Cond.code ({ cls := "EtchedPlate$Plate", name := "placesAmongLikes", desc := "(II)I" } : Jvm.MethodName) prog_3_method_12_code (7 : Nat) (Option.some Jvm.ClassFile.FieldType.int)) ∈ lw_g := List.mem_filter.mpr ⟨List.mem_of_getElem? (i := 296) rfl, rfl⟩
theorem q_297 : (Cond.methodLink "EtchedPlate$Plate" (69 : Nat) ({ cls := "EtchedPlate$Plate", name := "nowhereDarker", desc := "(II)Z" } : Jvm.MethodName)) ∈ lw_g := List.mem_filter.mpr ⟨List.mem_of_getElem? (i := 297) rfl, rfl⟩
theorem q_298 : (Cond.methodLink "EtchedPlateLaw" (80 : Nat) ({ cls := "EtchedPlate", name := "bestState", desc := "()I" } : Jvm.MethodName)) ∈ lw_g := List.mem_filter.mpr ⟨List.mem_of_getElem? (i := 298) rfl, rfl⟩
theorem q_299 : (Cond.instanceMethod ({ cls := "EtchedPlate", name := "bestState", desc := "()I" } : Jvm.MethodName)) ∈ lw_g := List.mem_filter.mpr ⟨List.mem_of_getElem? (i := 299) rfl, rfl⟩
theorem q_300 : (Cond.selects "EtchedPlate" ({ cls := "EtchedPlate", name := "bestState", desc := "()I" } : Jvm.MethodName) ({ cls := "EtchedPlate", name := "bestState", desc := "()I" } : Jvm.MethodName)) ∈ lw_g := List.mem_filter.mpr ⟨List.mem_of_getElem? (i := 300) rfl, rfl⟩
theorem q_301 : (Cond.code ({ cls := "EtchedPlate", name := "bestState", desc := "()I" } : Jvm.MethodName) prog_1_method_18_code (5 : Nat) (Option.some Jvm.ClassFile.FieldType.int)) ∈ lw_g := List.mem_filter.mpr ⟨List.mem_of_getElem? (i := 301) rfl, rfl⟩
theorem q_302 : (Cond.methodLink "EtchedPlate" (109 : Nat) ({ cls := "EtchedPlate$Plate", name := "differenceFrom", desc := "(I[I)I" } : Jvm.MethodName)) ∈ lw_g := List.mem_filter.mpr ⟨List.mem_of_getElem? (i := 302) rfl, rfl⟩
theorem q_303 : (Cond.instanceMethod ({ cls := "EtchedPlate$Plate", name := "differenceFrom", desc := "(I[I)I" } : Jvm.MethodName)) ∈ lw_g := List.mem_filter.mpr ⟨List.mem_of_getElem? (i := 303) rfl, rfl⟩
theorem q_304 : (Cond.selects "EtchedPlate$Plate" ({ cls := "EtchedPlate$Plate", name := "differenceFrom", desc := "(I[I)I" } : Jvm.MethodName) ({ cls := "EtchedPlate$Plate", name := "differenceFrom", desc := "(I[I)I" } : Jvm.MethodName)) ∈ lw_g := List.mem_filter.mpr ⟨List.mem_of_getElem? (i := 304) rfl, rfl⟩
theorem q_305 : (Cond.code ({ cls := "EtchedPlate$Plate", name := "differenceFrom", desc := "(I[I)I" } : Jvm.MethodName) prog_3_method_13_code (5 : Nat) (Option.some Jvm.ClassFile.FieldType.int)) ∈ lw_g := List.mem_filter.mpr ⟨List.mem_of_getElem? (i := 305) rfl, rfl⟩
theorem q_306 : (Cond.methodLink "EtchedPlate$Plate" (72 : Nat) ({ cls := "java/lang/Math", name := "abs", desc := "(I)I" } : Jvm.MethodName)) ∈ lw_g := List.mem_filter.mpr ⟨List.mem_of_getElem? (i := 306) rfl, rfl⟩
theorem q_307 : (Cond.static ({ cls := "java/lang/Math", name := "abs", desc := "(I)I" } : Jvm.MethodName)) ∈ lw_g := List.mem_filter.mpr ⟨List.mem_of_getElem? (i := 307) rfl, rfl⟩
theorem q_308 : (Cond.code ({ cls := "java/lang/Math", name := "abs", desc := "(I)I" } : Jvm.MethodName) prog_8_method_59_code (1 : Nat) (Option.some Jvm.ClassFile.FieldType.int)) ∈ lw_g := List.mem_filter.mpr ⟨List.mem_of_getElem? (i := 308) rfl, rfl⟩
theorem q_309 : (Cond.methodLink "EtchedPlateLaw" (84 : Nat) ({ cls := "EtchedPlate", name := "setTarget", desc := "(II)I" } : Jvm.MethodName)) ∈ lw_g := List.mem_filter.mpr ⟨List.mem_of_getElem? (i := 309) rfl, rfl⟩
theorem q_310 : (Cond.instanceMethod ({ cls := "EtchedPlate", name := "setTarget", desc := "(II)I" } : Jvm.MethodName)) ∈ lw_g := List.mem_filter.mpr ⟨List.mem_of_getElem? (i := 310) rfl, rfl⟩
theorem q_311 : (Cond.selects "EtchedPlate" ({ cls := "EtchedPlate", name := "setTarget", desc := "(II)I" } : Jvm.MethodName) ({ cls := "EtchedPlate", name := "setTarget", desc := "(II)I" } : Jvm.MethodName)) ∈ lw_g := List.mem_filter.mpr ⟨List.mem_of_getElem? (i := 311) rfl, rfl⟩
theorem q_312 : (Cond.code ({ cls := "EtchedPlate", name := "setTarget", desc := "(II)I" } : Jvm.MethodName) prog_1_method_19_code (4 : Nat) (Option.some Jvm.ClassFile.FieldType.int)) ∈ lw_g := List.mem_filter.mpr ⟨List.mem_of_getElem? (i := 312) rfl, rfl⟩
theorem q_313 : (Cond.methodLink "EtchedPlateLaw" (88 : Nat) ({ cls := "EtchedPlate", name := "dips", desc := "()I" } : Jvm.MethodName)) ∈ lw_g := List.mem_filter.mpr ⟨List.mem_of_getElem? (i := 313) rfl, rfl⟩
theorem q_314 : (Cond.instanceMethod ({ cls := "EtchedPlate", name := "dips", desc := "()I" } : Jvm.MethodName)) ∈ lw_g := List.mem_filter.mpr ⟨List.mem_of_getElem? (i := 314) rfl, rfl⟩
theorem q_315 : (Cond.selects "EtchedPlate" ({ cls := "EtchedPlate", name := "dips", desc := "()I" } : Jvm.MethodName) ({ cls := "EtchedPlate", name := "dips", desc := "()I" } : Jvm.MethodName)) ∈ lw_g := List.mem_filter.mpr ⟨List.mem_of_getElem? (i := 315) rfl, rfl⟩
theorem q_316 : (Cond.code ({ cls := "EtchedPlate", name := "dips", desc := "()I" } : Jvm.MethodName) prog_1_method_20_code (1 : Nat) (Option.some Jvm.ClassFile.FieldType.int)) ∈ lw_g := List.mem_filter.mpr ⟨List.mem_of_getElem? (i := 316) rfl, rfl⟩
theorem q_317 : (Cond.methodLink "EtchedPlate" (113 : Nat) ({ cls := "EtchedPlate$Plan", name := "make", desc := "(LEtchedPlate$Plate;[I)V" } : Jvm.MethodName)) ∈ lw_g := List.mem_filter.mpr ⟨List.mem_of_getElem? (i := 317) rfl, rfl⟩
theorem q_318 : (Cond.instanceMethod ({ cls := "EtchedPlate$Plan", name := "make", desc := "(LEtchedPlate$Plate;[I)V" } : Jvm.MethodName)) ∈ lw_g := List.mem_filter.mpr ⟨List.mem_of_getElem? (i := 318) rfl, rfl⟩
theorem q_319 : (Cond.selects "EtchedPlate$Plan" ({ cls := "EtchedPlate$Plan", name := "make", desc := "(LEtchedPlate$Plate;[I)V" } : Jvm.MethodName) ({ cls := "EtchedPlate$Plan", name := "make", desc := "(LEtchedPlate$Plate;[I)V" } : Jvm.MethodName)) ∈ lw_g := List.mem_filter.mpr ⟨List.mem_of_getElem? (i := 319) rfl, rfl⟩
theorem q_320 : (Cond.code ({ cls := "EtchedPlate$Plan", name := "make", desc := "(LEtchedPlate$Plate;[I)V" } : Jvm.MethodName) prog_2_method_2_code (5 : Nat) (Option.none : Option Jvm.ClassFile.FieldType)) ∈ lw_g := List.mem_filter.mpr ⟨List.mem_of_getElem? (i := 320) rfl, rfl⟩
theorem q_321 : (Cond.methodLink "EtchedPlate$Plan" (40 : Nat) ({ cls := "EtchedPlate$Plan", name := "fewestMinutes", desc := "(II)I" } : Jvm.MethodName)) ∈ lw_g := List.mem_filter.mpr ⟨List.mem_of_getElem? (i := 321) rfl, rfl⟩
theorem q_322 : (Cond.static ({ cls := "EtchedPlate$Plan", name := "fewestMinutes", desc := "(II)I" } : Jvm.MethodName)) ∈ lw_g := List.mem_filter.mpr ⟨List.mem_of_getElem? (i := 322) rfl, rfl⟩
theorem q_323 : (Cond.code ({ cls := "EtchedPlate$Plan", name := "fewestMinutes", desc := "(II)I" } : Jvm.MethodName) prog_2_method_3_code (2 : Nat) (Option.some Jvm.ClassFile.FieldType.int)) ∈ lw_g := List.mem_filter.mpr ⟨List.mem_of_getElem? (i := 323) rfl, rfl⟩
theorem q_324 : (Cond.methodLink "EtchedPlate$Plan" (44 : Nat) ({ cls := "EtchedPlate$Plan", name := "mostMinutes", desc := "(II)I" } : Jvm.MethodName)) ∈ lw_g := List.mem_filter.mpr ⟨List.mem_of_getElem? (i := 324) rfl, rfl⟩
theorem q_325 : (Cond.static ({ cls := "EtchedPlate$Plan", name := "mostMinutes", desc := "(II)I" } : Jvm.MethodName)) ∈ lw_g := List.mem_filter.mpr ⟨List.mem_of_getElem? (i := 325) rfl, rfl⟩
theorem q_326 : (Cond.code ({ cls := "EtchedPlate$Plan", name := "mostMinutes", desc := "(II)I" } : Jvm.MethodName) prog_2_method_4_code (2 : Nat) (Option.some Jvm.ClassFile.FieldType.int)) ∈ lw_g := List.mem_filter.mpr ⟨List.mem_of_getElem? (i := 326) rfl, rfl⟩
theorem q_327 : (Cond.methodLink "EtchedPlate$Plan" (50 : Nat) ({ cls := "java/lang/Math", name := "min", desc := "(II)I" } : Jvm.MethodName)) ∈ lw_g := List.mem_filter.mpr ⟨List.mem_of_getElem? (i := 327) rfl, rfl⟩
theorem q_328 : (Cond.methodLink "EtchedPlate$Plan" (47 : Nat) ({ cls := "EtchedPlate$Plan", name := "chooseTotals", desc := "()V" } : Jvm.MethodName)) ∈ lw_g := List.mem_filter.mpr ⟨List.mem_of_getElem? (i := 328) rfl, rfl⟩
theorem q_330 : (Cond.instanceMethod ({ cls := "EtchedPlate$Plan", name := "chooseTotals", desc := "()V" } : Jvm.MethodName)) ∈ lw_g := List.mem_filter.mpr ⟨List.mem_of_getElem? (i := 330) rfl, rfl⟩
theorem q_331 : (Cond.code ({ cls := "EtchedPlate$Plan", name := "chooseTotals", desc := "()V" } : Jvm.MethodName) prog_2_method_5_code (4 : Nat) (Option.none : Option Jvm.ClassFile.FieldType)) ∈ lw_g := List.mem_filter.mpr ⟨List.mem_of_getElem? (i := 331) rfl, rfl⟩
theorem q_332 : (Cond.methodLink "EtchedPlate$Plan" (55 : Nat) ({ cls := "EtchedPlate$Plan", name := "nextTotal", desc := "(I)I" } : Jvm.MethodName)) ∈ lw_g := List.mem_filter.mpr ⟨List.mem_of_getElem? (i := 332) rfl, rfl⟩
theorem q_334 : (Cond.instanceMethod ({ cls := "EtchedPlate$Plan", name := "nextTotal", desc := "(I)I" } : Jvm.MethodName)) ∈ lw_g := List.mem_filter.mpr ⟨List.mem_of_getElem? (i := 334) rfl, rfl⟩
theorem q_335 : (Cond.code ({ cls := "EtchedPlate$Plan", name := "nextTotal", desc := "(I)I" } : Jvm.MethodName) prog_2_method_6_code (4 : Nat) (Option.some Jvm.ClassFile.FieldType.int)) ∈ lw_g := List.mem_filter.mpr ⟨List.mem_of_getElem? (i := 335) rfl, rfl⟩
theorem q_336 : (Cond.methodLink "EtchedPlateLaw" (92 : Nat) ({ cls := "EtchedPlate", name := "dipMinutes", desc := "(I)I" } : Jvm.MethodName)) ∈ lw_g := List.mem_filter.mpr ⟨List.mem_of_getElem? (i := 336) rfl, rfl⟩
theorem q_337 : (Cond.instanceMethod ({ cls := "EtchedPlate", name := "dipMinutes", desc := "(I)I" } : Jvm.MethodName)) ∈ lw_g := List.mem_filter.mpr ⟨List.mem_of_getElem? (i := 337) rfl, rfl⟩
theorem q_338 : (Cond.selects "EtchedPlate" ({ cls := "EtchedPlate", name := "dipMinutes", desc := "(I)I" } : Jvm.MethodName) ({ cls := "EtchedPlate", name := "dipMinutes", desc := "(I)I" } : Jvm.MethodName)) ∈ lw_g := List.mem_filter.mpr ⟨List.mem_of_getElem? (i := 338) rfl, rfl⟩
theorem q_339 : (Cond.code ({ cls := "EtchedPlate", name := "dipMinutes", desc := "(I)I" } : Jvm.MethodName) prog_1_method_21_code (3 : Nat) (Option.some Jvm.ClassFile.FieldType.int)) ∈ lw_g := List.mem_filter.mpr ⟨List.mem_of_getElem? (i := 339) rfl, rfl⟩
theorem q_340 : (Cond.methodLink "EtchedPlate" (123 : Nat) ({ cls := "EtchedPlate", name := "faultOfDip", desc := "(I)I" } : Jvm.MethodName)) ∈ lw_g := List.mem_filter.mpr ⟨List.mem_of_getElem? (i := 340) rfl, rfl⟩
theorem q_342 : (Cond.instanceMethod ({ cls := "EtchedPlate", name := "faultOfDip", desc := "(I)I" } : Jvm.MethodName)) ∈ lw_g := List.mem_filter.mpr ⟨List.mem_of_getElem? (i := 342) rfl, rfl⟩
theorem q_343 : (Cond.code ({ cls := "EtchedPlate", name := "faultOfDip", desc := "(I)I" } : Jvm.MethodName) prog_1_method_32_code (2 : Nat) (Option.some Jvm.ClassFile.FieldType.int)) ∈ lw_g := List.mem_filter.mpr ⟨List.mem_of_getElem? (i := 343) rfl, rfl⟩
theorem q_344 : (Cond.methodLink "EtchedPlate" (126 : Nat) ({ cls := "EtchedPlate$Plan", name := "minutesAt", desc := "(I)I" } : Jvm.MethodName)) ∈ lw_g := List.mem_filter.mpr ⟨List.mem_of_getElem? (i := 344) rfl, rfl⟩
theorem q_345 : (Cond.instanceMethod ({ cls := "EtchedPlate$Plan", name := "minutesAt", desc := "(I)I" } : Jvm.MethodName)) ∈ lw_g := List.mem_filter.mpr ⟨List.mem_of_getElem? (i := 345) rfl, rfl⟩
theorem q_346 : (Cond.selects "EtchedPlate$Plan" ({ cls := "EtchedPlate$Plan", name := "minutesAt", desc := "(I)I" } : Jvm.MethodName) ({ cls := "EtchedPlate$Plan", name := "minutesAt", desc := "(I)I" } : Jvm.MethodName)) ∈ lw_g := List.mem_filter.mpr ⟨List.mem_of_getElem? (i := 346) rfl, rfl⟩
theorem q_347 : (Cond.code ({ cls := "EtchedPlate$Plan", name := "minutesAt", desc := "(I)I" } : Jvm.MethodName) prog_2_method_8_code (2 : Nat) (Option.some Jvm.ClassFile.FieldType.int)) ∈ lw_g := List.mem_filter.mpr ⟨List.mem_of_getElem? (i := 347) rfl, rfl⟩
theorem q_348 : (Cond.methodLink "EtchedPlate$Plan" (59 : Nat) ({ cls := "EtchedPlate$Plan", name := "totalBefore", desc := "(I)I" } : Jvm.MethodName)) ∈ lw_g := List.mem_filter.mpr ⟨List.mem_of_getElem? (i := 348) rfl, rfl⟩
theorem q_350 : (Cond.instanceMethod ({ cls := "EtchedPlate$Plan", name := "totalBefore", desc := "(I)I" } : Jvm.MethodName)) ∈ lw_g := List.mem_filter.mpr ⟨List.mem_of_getElem? (i := 350) rfl, rfl⟩
theorem q_351 : (Cond.code ({ cls := "EtchedPlate$Plan", name := "totalBefore", desc := "(I)I" } : Jvm.MethodName) prog_2_method_7_code (2 : Nat) (Option.some Jvm.ClassFile.FieldType.int)) ∈ lw_g := List.mem_filter.mpr ⟨List.mem_of_getElem? (i := 351) rfl, rfl⟩
theorem q_352 : (Cond.methodLink "EtchedPlateLaw" (96 : Nat) ({ cls := "EtchedPlate", name := "dipVarnish", desc := "(I)I" } : Jvm.MethodName)) ∈ lw_g := List.mem_filter.mpr ⟨List.mem_of_getElem? (i := 352) rfl, rfl⟩
theorem q_353 : (Cond.instanceMethod ({ cls := "EtchedPlate", name := "dipVarnish", desc := "(I)I" } : Jvm.MethodName)) ∈ lw_g := List.mem_filter.mpr ⟨List.mem_of_getElem? (i := 353) rfl, rfl⟩
theorem q_354 : (Cond.selects "EtchedPlate" ({ cls := "EtchedPlate", name := "dipVarnish", desc := "(I)I" } : Jvm.MethodName) ({ cls := "EtchedPlate", name := "dipVarnish", desc := "(I)I" } : Jvm.MethodName)) ∈ lw_g := List.mem_filter.mpr ⟨List.mem_of_getElem? (i := 354) rfl, rfl⟩
theorem q_355 : (Cond.code ({ cls := "EtchedPlate", name := "dipVarnish", desc := "(I)I" } : Jvm.MethodName) prog_1_method_22_code (3 : Nat) (Option.some Jvm.ClassFile.FieldType.int)) ∈ lw_g := List.mem_filter.mpr ⟨List.mem_of_getElem? (i := 355) rfl, rfl⟩
theorem q_356 : (Cond.methodLink "EtchedPlate" (129 : Nat) ({ cls := "EtchedPlate$Plan", name := "finishedBefore", desc := "(I)I" } : Jvm.MethodName)) ∈ lw_g := List.mem_filter.mpr ⟨List.mem_of_getElem? (i := 356) rfl, rfl⟩
theorem q_357 : (Cond.instanceMethod ({ cls := "EtchedPlate$Plan", name := "finishedBefore", desc := "(I)I" } : Jvm.MethodName)) ∈ lw_g := List.mem_filter.mpr ⟨List.mem_of_getElem? (i := 357) rfl, rfl⟩
theorem q_358 : (Cond.selects "EtchedPlate$Plan" ({ cls := "EtchedPlate$Plan", name := "finishedBefore", desc := "(I)I" } : Jvm.MethodName) ({ cls := "EtchedPlate$Plan", name := "finishedBefore", desc := "(I)I" } : Jvm.MethodName)) ∈ lw_g := List.mem_filter.mpr ⟨List.mem_of_getElem? (i := 358) rfl, rfl⟩
theorem q_359 : (Cond.code ({ cls := "EtchedPlate$Plan", name := "finishedBefore", desc := "(I)I" } : Jvm.MethodName) prog_2_method_9_code (5 : Nat) (Option.some Jvm.ClassFile.FieldType.int)) ∈ lw_g := List.mem_filter.mpr ⟨List.mem_of_getElem? (i := 359) rfl, rfl⟩
theorem q_360 : (Cond.methodLink "EtchedPlateLaw" (100 : Nat) ({ cls := "EtchedPlate", name := "obstacles", desc := "()I" } : Jvm.MethodName)) ∈ lw_g := List.mem_filter.mpr ⟨List.mem_of_getElem? (i := 360) rfl, rfl⟩
theorem q_361 : (Cond.instanceMethod ({ cls := "EtchedPlate", name := "obstacles", desc := "()I" } : Jvm.MethodName)) ∈ lw_g := List.mem_filter.mpr ⟨List.mem_of_getElem? (i := 361) rfl, rfl⟩
theorem q_362 : (Cond.selects "EtchedPlate" ({ cls := "EtchedPlate", name := "obstacles", desc := "()I" } : Jvm.MethodName) ({ cls := "EtchedPlate", name := "obstacles", desc := "()I" } : Jvm.MethodName)) ∈ lw_g := List.mem_filter.mpr ⟨List.mem_of_getElem? (i := 362) rfl, rfl⟩
theorem q_363 : (Cond.code ({ cls := "EtchedPlate", name := "obstacles", desc := "()I" } : Jvm.MethodName) prog_1_method_23_code (1 : Nat) (Option.some Jvm.ClassFile.FieldType.int)) ∈ lw_g := List.mem_filter.mpr ⟨List.mem_of_getElem? (i := 363) rfl, rfl⟩
theorem q_364 : (Cond.methodLink "EtchedPlateLaw" (104 : Nat) ({ cls := "EtchedPlate", name := "undo", desc := "()I" } : Jvm.MethodName)) ∈ lw_g := List.mem_filter.mpr ⟨List.mem_of_getElem? (i := 364) rfl, rfl⟩
theorem q_365 : (Cond.instanceMethod ({ cls := "EtchedPlate", name := "undo", desc := "()I" } : Jvm.MethodName)) ∈ lw_g := List.mem_filter.mpr ⟨List.mem_of_getElem? (i := 365) rfl, rfl⟩
theorem q_366 : (Cond.selects "EtchedPlate" ({ cls := "EtchedPlate", name := "undo", desc := "()I" } : Jvm.MethodName) ({ cls := "EtchedPlate", name := "undo", desc := "()I" } : Jvm.MethodName)) ∈ lw_g := List.mem_filter.mpr ⟨List.mem_of_getElem? (i := 366) rfl, rfl⟩
theorem q_367 : (Cond.code ({ cls := "EtchedPlate", name := "undo", desc := "()I" } : Jvm.MethodName) prog_1_method_24_code (1 : Nat) (Option.some Jvm.ClassFile.FieldType.int)) ∈ lw_g := List.mem_filter.mpr ⟨List.mem_of_getElem? (i := 367) rfl, rfl⟩
theorem q_368 : (Cond.methodLink "EtchedPlateLaw" (108 : Nat) ({ cls := "EtchedPlate", name := "errorCount", desc := "(I)I" } : Jvm.MethodName)) ∈ lw_g := List.mem_filter.mpr ⟨List.mem_of_getElem? (i := 368) rfl, rfl⟩
theorem q_369 : (Cond.instanceMethod ({ cls := "EtchedPlate", name := "errorCount", desc := "(I)I" } : Jvm.MethodName)) ∈ lw_g := List.mem_filter.mpr ⟨List.mem_of_getElem? (i := 369) rfl, rfl⟩
theorem q_370 : (Cond.selects "EtchedPlate" ({ cls := "EtchedPlate", name := "errorCount", desc := "(I)I" } : Jvm.MethodName) ({ cls := "EtchedPlate", name := "errorCount", desc := "(I)I" } : Jvm.MethodName)) ∈ lw_g := List.mem_filter.mpr ⟨List.mem_of_getElem? (i := 370) rfl, rfl⟩
theorem q_371 : (Cond.code ({ cls := "EtchedPlate", name := "errorCount", desc := "(I)I" } : Jvm.MethodName) prog_1_method_25_code (2 : Nat) (Option.some Jvm.ClassFile.FieldType.int)) ∈ lw_g := List.mem_filter.mpr ⟨List.mem_of_getElem? (i := 371) rfl, rfl⟩
theorem q_372 : (Cond.methodLink "EtchedPlateLaw" (112 : Nat) ({ cls := "EtchedPlate", name := "digest", desc := "()J" } : Jvm.MethodName)) ∈ lw_g := List.mem_filter.mpr ⟨List.mem_of_getElem? (i := 372) rfl, rfl⟩
theorem q_373 : (Cond.instanceMethod ({ cls := "EtchedPlate", name := "digest", desc := "()J" } : Jvm.MethodName)) ∈ lw_g := List.mem_filter.mpr ⟨List.mem_of_getElem? (i := 373) rfl, rfl⟩
theorem q_374 : (Cond.selects "EtchedPlate" ({ cls := "EtchedPlate", name := "digest", desc := "()J" } : Jvm.MethodName) ({ cls := "EtchedPlate", name := "digest", desc := "()J" } : Jvm.MethodName)) ∈ lw_g := List.mem_filter.mpr ⟨List.mem_of_getElem? (i := 374) rfl, rfl⟩
theorem q_375 : (Cond.code ({ cls := "EtchedPlate", name := "digest", desc := "()J" } : Jvm.MethodName) prog_1_method_26_code (4 : Nat) (Option.some Jvm.ClassFile.FieldType.long)) ∈ lw_g := List.mem_filter.mpr ⟨List.mem_of_getElem? (i := 375) rfl, rfl⟩
theorem q_376 : (Cond.constantLong "EtchedPlate" (136 : Nat) (2689 : Int64)) ∈ lw_g := List.mem_filter.mpr ⟨List.mem_of_getElem? (i := 376) rfl, rfl⟩
theorem q_377 : (Cond.methodLink "EtchedPlate" (138 : Nat) ({ cls := "EtchedPlate", name := "mix", desc := "(JI)J" } : Jvm.MethodName)) ∈ lw_g := List.mem_filter.mpr ⟨List.mem_of_getElem? (i := 377) rfl, rfl⟩
theorem q_378 : (Cond.static ({ cls := "EtchedPlate", name := "mix", desc := "(JI)J" } : Jvm.MethodName)) ∈ lw_g := List.mem_filter.mpr ⟨List.mem_of_getElem? (i := 378) rfl, rfl⟩
theorem q_379 : (Cond.code ({ cls := "EtchedPlate", name := "mix", desc := "(JI)J" } : Jvm.MethodName) prog_1_method_27_code (3 : Nat) (Option.some Jvm.ClassFile.FieldType.long)) ∈ lw_g := List.mem_filter.mpr ⟨List.mem_of_getElem? (i := 379) rfl, rfl⟩
theorem q_380 : (Cond.constantLong "EtchedPlate" (155 : Nat) (31 : Int64)) ∈ lw_g := List.mem_filter.mpr ⟨List.mem_of_getElem? (i := 380) rfl, rfl⟩
theorem q_381 : (Cond.methodLink "EtchedPlate" (142 : Nat) ({ cls := "EtchedPlate", name := "mixLines", desc := "(J)J" } : Jvm.MethodName)) ∈ lw_g := List.mem_filter.mpr ⟨List.mem_of_getElem? (i := 381) rfl, rfl⟩
theorem q_383 : (Cond.instanceMethod ({ cls := "EtchedPlate", name := "mixLines", desc := "(J)J" } : Jvm.MethodName)) ∈ lw_g := List.mem_filter.mpr ⟨List.mem_of_getElem? (i := 383) rfl, rfl⟩
theorem q_384 : (Cond.code ({ cls := "EtchedPlate", name := "mixLines", desc := "(J)J" } : Jvm.MethodName) prog_1_method_28_code (6 : Nat) (Option.some Jvm.ClassFile.FieldType.long)) ∈ lw_g := List.mem_filter.mpr ⟨List.mem_of_getElem? (i := 384) rfl, rfl⟩
theorem q_385 : (Cond.methodLink "EtchedPlate" (146 : Nat) ({ cls := "EtchedPlate", name := "mixPrints", desc := "(J)J" } : Jvm.MethodName)) ∈ lw_g := List.mem_filter.mpr ⟨List.mem_of_getElem? (i := 385) rfl, rfl⟩
theorem q_387 : (Cond.instanceMethod ({ cls := "EtchedPlate", name := "mixPrints", desc := "(J)J" } : Jvm.MethodName)) ∈ lw_g := List.mem_filter.mpr ⟨List.mem_of_getElem? (i := 387) rfl, rfl⟩
theorem q_388 : (Cond.code ({ cls := "EtchedPlate", name := "mixPrints", desc := "(J)J" } : Jvm.MethodName) prog_1_method_29_code (7 : Nat) (Option.some Jvm.ClassFile.FieldType.long)) ∈ lw_g := List.mem_filter.mpr ⟨List.mem_of_getElem? (i := 388) rfl, rfl⟩
theorem q_389 : (Cond.methodLink "EtchedPlate" (149 : Nat) ({ cls := "EtchedPlate", name := "mixPlan", desc := "(J)J" } : Jvm.MethodName)) ∈ lw_g := List.mem_filter.mpr ⟨List.mem_of_getElem? (i := 389) rfl, rfl⟩
theorem q_391 : (Cond.instanceMethod ({ cls := "EtchedPlate", name := "mixPlan", desc := "(J)J" } : Jvm.MethodName)) ∈ lw_g := List.mem_filter.mpr ⟨List.mem_of_getElem? (i := 391) rfl, rfl⟩
theorem q_392 : (Cond.code ({ cls := "EtchedPlate", name := "mixPlan", desc := "(J)J" } : Jvm.MethodName) prog_1_method_30_code (6 : Nat) (Option.some Jvm.ClassFile.FieldType.long)) ∈ lw_g := List.mem_filter.mpr ⟨List.mem_of_getElem? (i := 392) rfl, rfl⟩
theorem q_393 : (Cond.classLink "EtchedPlateLaw" (10 : Nat) "EtchedPlateModel") ∈ lw_g := List.mem_filter.mpr ⟨List.mem_of_getElem? (i := 393) rfl, rfl⟩
theorem q_394 : (Cond.instantiable "EtchedPlateModel" (11 : Nat)) ∈ lw_g := List.mem_filter.mpr ⟨List.mem_of_getElem? (i := 394) rfl, rfl⟩
theorem q_395 : (Cond.methodLink "EtchedPlateLaw" (12 : Nat) ({ cls := "EtchedPlateModel", name := "<init>", desc := "()V" } : Jvm.MethodName)) ∈ lw_g := List.mem_filter.mpr ⟨List.mem_of_getElem? (i := 395) rfl, rfl⟩
theorem q_396 : (Cond.instanceMethod ({ cls := "EtchedPlateModel", name := "<init>", desc := "()V" } : Jvm.MethodName)) ∈ lw_g := List.mem_filter.mpr ⟨List.mem_of_getElem? (i := 396) rfl, rfl⟩
theorem q_397 : (Cond.code ({ cls := "EtchedPlateModel", name := "<init>", desc := "()V" } : Jvm.MethodName) prog_5_method_1_code (1 : Nat) (Option.none : Option Jvm.ClassFile.FieldType)) ∈ lw_g := List.mem_filter.mpr ⟨List.mem_of_getElem? (i := 397) rfl, rfl⟩
theorem q_398 : (Cond.methodLink "EtchedPlateModel" (1 : Nat) ({ cls := "java/lang/Object", name := "<init>", desc := "()V" } : Jvm.MethodName)) ∈ lw_g := List.mem_filter.mpr ⟨List.mem_of_getElem? (i := 398) rfl, rfl⟩
theorem q_399 : (Cond.fieldLink "EtchedPlateModel" (7 : Nat) "EtchedPlateModel" "now" "[I") ∈ lw_g := List.mem_filter.mpr ⟨List.mem_of_getElem? (i := 399) rfl, rfl⟩
set_option maxRecDepth 8000 in
theorem q_400 : (Cond.fieldLink "EtchedPlateModel" (13 : Nat) "EtchedPlateModel" "past" "[I") ∈ lw_g := List.mem_filter.mpr ⟨List.mem_of_getElem? (i := 400) rfl, rfl⟩
set_option maxRecDepth 8000 in
theorem q_401 : (Cond.fieldLink "EtchedPlateModel" (38 : Nat) "EtchedPlateModel" "saved" "I") ∈ lw_g := List.mem_filter.mpr ⟨List.mem_of_getElem? (i := 401) rfl, rfl⟩
set_option maxRecDepth 8000 in
theorem q_402 : (Cond.fieldLink "EtchedPlateModel" (16 : Nat) "EtchedPlateModel" "errors" "[I") ∈ lw_g := List.mem_filter.mpr ⟨List.mem_of_getElem? (i := 402) rfl, rfl⟩
set_option maxRecDepth 8000 in
theorem q_403 : (Cond.fieldLink "EtchedPlateModel" (19 : Nat) "EtchedPlateModel" "target" "[I") ∈ lw_g := List.mem_filter.mpr ⟨List.mem_of_getElem? (i := 403) rfl, rfl⟩
set_option maxRecDepth 8000 in
theorem q_404 : (Cond.fieldLink "EtchedPlateModel" (22 : Nat) "EtchedPlateModel" "ways" "[I") ∈ lw_g := List.mem_filter.mpr ⟨List.mem_of_getElem? (i := 404) rfl, rfl⟩
set_option maxRecDepth 8000 in
theorem q_405 : (Cond.fieldLink "EtchedPlateModel" (25 : Nat) "EtchedPlateModel" "ahead" "[I") ∈ lw_g := List.mem_filter.mpr ⟨List.mem_of_getElem? (i := 405) rfl, rfl⟩
set_option maxRecDepth 8000 in
theorem q_406 : (Cond.fieldLink "EtchedPlateModel" (28 : Nat) "EtchedPlateModel" "totals" "[I") ∈ lw_g := List.mem_filter.mpr ⟨List.mem_of_getElem? (i := 406) rfl, rfl⟩
set_option maxRecDepth 8000 in
theorem q_407 : (Cond.fieldLink "EtchedPlateModel" (31 : Nat) "EtchedPlateModel" "uses" "[I") ∈ lw_g := List.mem_filter.mpr ⟨List.mem_of_getElem? (i := 407) rfl, rfl⟩
set_option maxRecDepth 8000 in
theorem q_408 : (Cond.fieldLink "EtchedPlateModel" (82 : Nat) "EtchedPlateModel" "totalMany" "I") ∈ lw_g := List.mem_filter.mpr ⟨List.mem_of_getElem? (i := 408) rfl, rfl⟩
set_option maxRecDepth 8000 in
theorem q_409 : (Cond.fieldLink "EtchedPlateModel" (106 : Nat) "EtchedPlateModel" "hash" "J") ∈ lw_g := List.mem_filter.mpr ⟨List.mem_of_getElem? (i := 409) rfl, rfl⟩
set_option maxRecDepth 8000 in
theorem q_410 : (Cond.laysFinal "EtchedPlateModel" "EtchedPlateModel" "now" "[I") ∈ lw_g := List.mem_filter.mpr ⟨List.mem_of_getElem? (i := 410) rfl, rfl⟩
set_option maxRecDepth 8000 in
theorem q_412 : (Cond.laysFinal "EtchedPlateModel" "EtchedPlateModel" "past" "[I") ∈ lw_g := List.mem_filter.mpr ⟨List.mem_of_getElem? (i := 412) rfl, rfl⟩
set_option maxRecDepth 8000 in
theorem q_414 : (Cond.lays "EtchedPlateModel" "EtchedPlateModel" "saved" "I") ∈ lw_g := List.mem_filter.mpr ⟨List.mem_of_getElem? (i := 414) rfl, rfl⟩
set_option maxRecDepth 8000 in
theorem q_416 : (Cond.laysFinal "EtchedPlateModel" "EtchedPlateModel" "errors" "[I") ∈ lw_g := List.mem_filter.mpr ⟨List.mem_of_getElem? (i := 416) rfl, rfl⟩
set_option maxRecDepth 8000 in
theorem q_418 : (Cond.laysFinal "EtchedPlateModel" "EtchedPlateModel" "target" "[I") ∈ lw_g := List.mem_filter.mpr ⟨List.mem_of_getElem? (i := 418) rfl, rfl⟩
set_option maxRecDepth 8000 in
theorem q_420 : (Cond.laysFinal "EtchedPlateModel" "EtchedPlateModel" "ways" "[I") ∈ lw_g := List.mem_filter.mpr ⟨List.mem_of_getElem? (i := 420) rfl, rfl⟩
set_option maxRecDepth 8000 in
theorem q_422 : (Cond.laysFinal "EtchedPlateModel" "EtchedPlateModel" "ahead" "[I") ∈ lw_g := List.mem_filter.mpr ⟨List.mem_of_getElem? (i := 422) rfl, rfl⟩
set_option maxRecDepth 8000 in
theorem q_424 : (Cond.laysFinal "EtchedPlateModel" "EtchedPlateModel" "totals" "[I") ∈ lw_g := List.mem_filter.mpr ⟨List.mem_of_getElem? (i := 424) rfl, rfl⟩
set_option maxRecDepth 8000 in
theorem q_426 : (Cond.laysFinal "EtchedPlateModel" "EtchedPlateModel" "uses" "[I") ∈ lw_g := List.mem_filter.mpr ⟨List.mem_of_getElem? (i := 426) rfl, rfl⟩
set_option maxRecDepth 8000 in
theorem q_428 : (Cond.lays "EtchedPlateModel" "EtchedPlateModel" "totalMany" "I") ∈ lw_g := List.mem_filter.mpr ⟨List.mem_of_getElem? (i := 428) rfl, rfl⟩
set_option maxRecDepth 8000 in
theorem q_430 : (Cond.lays "EtchedPlateModel" "EtchedPlateModel" "hash" "J") ∈ lw_g := List.mem_filter.mpr ⟨List.mem_of_getElem? (i := 430) rfl, rfl⟩
set_option maxRecDepth 8000 in
theorem q_433 : (Cond.methodLink "EtchedPlateLaw" (107 : Nat) ({ cls := "EtchedPlateModel", name := "undo", desc := "()I" } : Jvm.MethodName)) ∈ lw_g := List.mem_filter.mpr ⟨List.mem_of_getElem? (i := 433) rfl, rfl⟩
set_option maxRecDepth 8000 in
theorem q_434 : (Cond.instanceMethod ({ cls := "EtchedPlateModel", name := "undo", desc := "()I" } : Jvm.MethodName)) ∈ lw_g := List.mem_filter.mpr ⟨List.mem_of_getElem? (i := 434) rfl, rfl⟩
set_option maxRecDepth 8000 in
theorem q_435 : (Cond.selects "EtchedPlateModel" ({ cls := "EtchedPlateModel", name := "undo", desc := "()I" } : Jvm.MethodName) ({ cls := "EtchedPlateModel", name := "undo", desc := "()I" } : Jvm.MethodName)) ∈ lw_g := List.mem_filter.mpr ⟨List.mem_of_getElem? (i := 435) rfl, rfl⟩
set_option maxRecDepth 8000 in
theorem q_436 : (Cond.code ({ cls := "EtchedPlateModel", name := "undo", desc := "()I" } : Jvm.MethodName) prog_5_method_9_code (2 : Nat) (Option.some Jvm.ClassFile.FieldType.int)) ∈ lw_g := List.mem_filter.mpr ⟨List.mem_of_getElem? (i := 436) rfl, rfl⟩
set_option maxRecDepth 8000 in
theorem q_437 : (Cond.methodLink "EtchedPlateModel" (42 : Nat) ({ cls := "EtchedPlateModel", name := "fails", desc := "(I)I" } : Jvm.MethodName)) ∈ lw_g := List.mem_filter.mpr ⟨List.mem_of_getElem? (i := 437) rfl, rfl⟩
set_option maxRecDepth 8000 in
theorem q_439 : (Cond.instanceMethod ({ cls := "EtchedPlateModel", name := "fails", desc := "(I)I" } : Jvm.MethodName)) ∈ lw_g := List.mem_filter.mpr ⟨List.mem_of_getElem? (i := 439) rfl, rfl⟩
set_option maxRecDepth 8000 in
theorem q_440 : (Cond.code ({ cls := "EtchedPlateModel", name := "fails", desc := "(I)I" } : Jvm.MethodName) prog_5_method_5_code (2 : Nat) (Option.some Jvm.ClassFile.FieldType.int)) ∈ lw_g := List.mem_filter.mpr ⟨List.mem_of_getElem? (i := 440) rfl, rfl⟩
set_option maxRecDepth 8000 in
theorem q_441 : (Cond.methodLink "EtchedPlateLaw" (17 : Nat) ({ cls := "EtchedPlateModel", name := "draw", desc := "()I" } : Jvm.MethodName)) ∈ lw_g := List.mem_filter.mpr ⟨List.mem_of_getElem? (i := 441) rfl, rfl⟩
set_option maxRecDepth 8000 in
theorem q_442 : (Cond.instanceMethod ({ cls := "EtchedPlateModel", name := "draw", desc := "()I" } : Jvm.MethodName)) ∈ lw_g := List.mem_filter.mpr ⟨List.mem_of_getElem? (i := 442) rfl, rfl⟩
set_option maxRecDepth 8000 in
theorem q_443 : (Cond.selects "EtchedPlateModel" ({ cls := "EtchedPlateModel", name := "draw", desc := "()I" } : Jvm.MethodName) ({ cls := "EtchedPlateModel", name := "draw", desc := "()I" } : Jvm.MethodName)) ∈ lw_g := List.mem_filter.mpr ⟨List.mem_of_getElem? (i := 443) rfl, rfl⟩
set_option maxRecDepth 8000 in
theorem q_444 : (Cond.code ({ cls := "EtchedPlateModel", name := "draw", desc := "()I" } : Jvm.MethodName) prog_5_method_10_code (1 : Nat) (Option.some Jvm.ClassFile.FieldType.int)) ∈ lw_g := List.mem_filter.mpr ⟨List.mem_of_getElem? (i := 444) rfl, rfl⟩
set_option maxRecDepth 8000 in
theorem q_445 : (Cond.methodLink "EtchedPlateModel" (46 : Nat) ({ cls := "EtchedPlateModel", name := "saves", desc := "()V" } : Jvm.MethodName)) ∈ lw_g := List.mem_filter.mpr ⟨List.mem_of_getElem? (i := 445) rfl, rfl⟩
set_option maxRecDepth 8000 in
theorem q_447 : (Cond.instanceMethod ({ cls := "EtchedPlateModel", name := "saves", desc := "()V" } : Jvm.MethodName)) ∈ lw_g := List.mem_filter.mpr ⟨List.mem_of_getElem? (i := 447) rfl, rfl⟩
set_option maxRecDepth 8000 in
theorem q_448 : (Cond.code ({ cls := "EtchedPlateModel", name := "saves", desc := "()V" } : Jvm.MethodName) prog_5_method_8_code (2 : Nat) (Option.none : Option Jvm.ClassFile.FieldType)) ∈ lw_g := List.mem_filter.mpr ⟨List.mem_of_getElem? (i := 448) rfl, rfl⟩
set_option maxRecDepth 8000 in
theorem q_449 : (Cond.methodLink "EtchedPlateLaw" (22 : Nat) ({ cls := "EtchedPlateModel", name := "setStrength", desc := "(I)I" } : Jvm.MethodName)) ∈ lw_g := List.mem_filter.mpr ⟨List.mem_of_getElem? (i := 449) rfl, rfl⟩
set_option maxRecDepth 8000 in
theorem q_450 : (Cond.instanceMethod ({ cls := "EtchedPlateModel", name := "setStrength", desc := "(I)I" } : Jvm.MethodName)) ∈ lw_g := List.mem_filter.mpr ⟨List.mem_of_getElem? (i := 450) rfl, rfl⟩
set_option maxRecDepth 8000 in
theorem q_451 : (Cond.selects "EtchedPlateModel" ({ cls := "EtchedPlateModel", name := "setStrength", desc := "(I)I" } : Jvm.MethodName) ({ cls := "EtchedPlateModel", name := "setStrength", desc := "(I)I" } : Jvm.MethodName)) ∈ lw_g := List.mem_filter.mpr ⟨List.mem_of_getElem? (i := 451) rfl, rfl⟩
set_option maxRecDepth 8000 in
theorem q_452 : (Cond.code ({ cls := "EtchedPlateModel", name := "setStrength", desc := "(I)I" } : Jvm.MethodName) prog_5_method_11_code (3 : Nat) (Option.some Jvm.ClassFile.FieldType.int)) ∈ lw_g := List.mem_filter.mpr ⟨List.mem_of_getElem? (i := 452) rfl, rfl⟩
set_option maxRecDepth 8000 in
theorem q_453 : (Cond.methodLink "EtchedPlateModel" (34 : Nat) ({ cls := "EtchedPlateModel", name := "within", desc := "(III)Z" } : Jvm.MethodName)) ∈ lw_g := List.mem_filter.mpr ⟨List.mem_of_getElem? (i := 453) rfl, rfl⟩
set_option maxRecDepth 8000 in
theorem q_454 : (Cond.static ({ cls := "EtchedPlateModel", name := "within", desc := "(III)Z" } : Jvm.MethodName)) ∈ lw_g := List.mem_filter.mpr ⟨List.mem_of_getElem? (i := 454) rfl, rfl⟩
set_option maxRecDepth 8000 in
theorem q_455 : (Cond.code ({ cls := "EtchedPlateModel", name := "within", desc := "(III)Z" } : Jvm.MethodName) prog_5_method_3_code (3 : Nat) (Option.some Jvm.ClassFile.FieldType.boolean)) ∈ lw_g := List.mem_filter.mpr ⟨List.mem_of_getElem? (i := 455) rfl, rfl⟩
set_option maxRecDepth 8000 in
theorem q_456 : (Cond.methodLink "EtchedPlateLaw" (26 : Nat) ({ cls := "EtchedPlateModel", name := "dip", desc := "(I)I" } : Jvm.MethodName)) ∈ lw_g := List.mem_filter.mpr ⟨List.mem_of_getElem? (i := 456) rfl, rfl⟩
set_option maxRecDepth 8000 in
theorem q_457 : (Cond.instanceMethod ({ cls := "EtchedPlateModel", name := "dip", desc := "(I)I" } : Jvm.MethodName)) ∈ lw_g := List.mem_filter.mpr ⟨List.mem_of_getElem? (i := 457) rfl, rfl⟩
set_option maxRecDepth 8000 in
theorem q_458 : (Cond.selects "EtchedPlateModel" ({ cls := "EtchedPlateModel", name := "dip", desc := "(I)I" } : Jvm.MethodName) ({ cls := "EtchedPlateModel", name := "dip", desc := "(I)I" } : Jvm.MethodName)) ∈ lw_g := List.mem_filter.mpr ⟨List.mem_of_getElem? (i := 458) rfl, rfl⟩
set_option maxRecDepth 8000 in
theorem q_459 : (Cond.code ({ cls := "EtchedPlateModel", name := "dip", desc := "(I)I" } : Jvm.MethodName) prog_5_method_12_code (5 : Nat) (Option.some Jvm.ClassFile.FieldType.int)) ∈ lw_g := List.mem_filter.mpr ⟨List.mem_of_getElem? (i := 459) rfl, rfl⟩
set_option maxRecDepth 8000 in
theorem q_460 : (Cond.methodLink "EtchedPlateLaw" (30 : Nat) ({ cls := "EtchedPlateModel", name := "varnish", desc := "(I)I" } : Jvm.MethodName)) ∈ lw_g := List.mem_filter.mpr ⟨List.mem_of_getElem? (i := 460) rfl, rfl⟩
set_option maxRecDepth 8000 in
theorem q_461 : (Cond.instanceMethod ({ cls := "EtchedPlateModel", name := "varnish", desc := "(I)I" } : Jvm.MethodName)) ∈ lw_g := List.mem_filter.mpr ⟨List.mem_of_getElem? (i := 461) rfl, rfl⟩
set_option maxRecDepth 8000 in
theorem q_462 : (Cond.selects "EtchedPlateModel" ({ cls := "EtchedPlateModel", name := "varnish", desc := "(I)I" } : Jvm.MethodName) ({ cls := "EtchedPlateModel", name := "varnish", desc := "(I)I" } : Jvm.MethodName)) ∈ lw_g := List.mem_filter.mpr ⟨List.mem_of_getElem? (i := 462) rfl, rfl⟩
set_option maxRecDepth 8000 in
theorem q_463 : (Cond.code ({ cls := "EtchedPlateModel", name := "varnish", desc := "(I)I" } : Jvm.MethodName) prog_5_method_13_code (2 : Nat) (Option.some Jvm.ClassFile.FieldType.int)) ∈ lw_g := List.mem_filter.mpr ⟨List.mem_of_getElem? (i := 463) rfl, rfl⟩
set_option maxRecDepth 8000 in
theorem q_464 : (Cond.methodLink "EtchedPlateModel" (49 : Nat) ({ cls := "EtchedPlateModel", name := "ones", desc := "(I)I" } : Jvm.MethodName)) ∈ lw_g := List.mem_filter.mpr ⟨List.mem_of_getElem? (i := 464) rfl, rfl⟩
set_option maxRecDepth 8000 in
theorem q_465 : (Cond.static ({ cls := "EtchedPlateModel", name := "ones", desc := "(I)I" } : Jvm.MethodName)) ∈ lw_g := List.mem_filter.mpr ⟨List.mem_of_getElem? (i := 465) rfl, rfl⟩
set_option maxRecDepth 8000 in
theorem q_466 : (Cond.code ({ cls := "EtchedPlateModel", name := "ones", desc := "(I)I" } : Jvm.MethodName) prog_5_method_4_code (3 : Nat) (Option.some Jvm.ClassFile.FieldType.int)) ∈ lw_g := List.mem_filter.mpr ⟨List.mem_of_getElem? (i := 466) rfl, rfl⟩
set_option maxRecDepth 8000 in
theorem q_467 : (Cond.methodLink "EtchedPlateLaw" (34 : Nat) ({ cls := "EtchedPlateModel", name := "clean", desc := "()I" } : Jvm.MethodName)) ∈ lw_g := List.mem_filter.mpr ⟨List.mem_of_getElem? (i := 467) rfl, rfl⟩
set_option maxRecDepth 8000 in
theorem q_468 : (Cond.instanceMethod ({ cls := "EtchedPlateModel", name := "clean", desc := "()I" } : Jvm.MethodName)) ∈ lw_g := List.mem_filter.mpr ⟨List.mem_of_getElem? (i := 468) rfl, rfl⟩
set_option maxRecDepth 8000 in
theorem q_469 : (Cond.selects "EtchedPlateModel" ({ cls := "EtchedPlateModel", name := "clean", desc := "()I" } : Jvm.MethodName) ({ cls := "EtchedPlateModel", name := "clean", desc := "()I" } : Jvm.MethodName)) ∈ lw_g := List.mem_filter.mpr ⟨List.mem_of_getElem? (i := 469) rfl, rfl⟩
set_option maxRecDepth 8000 in
theorem q_470 : (Cond.code ({ cls := "EtchedPlateModel", name := "clean", desc := "()I" } : Jvm.MethodName) prog_5_method_14_code (2 : Nat) (Option.some Jvm.ClassFile.FieldType.int)) ∈ lw_g := List.mem_filter.mpr ⟨List.mem_of_getElem? (i := 470) rfl, rfl⟩
set_option maxRecDepth 8000 in
theorem q_471 : (Cond.methodLink "EtchedPlateLaw" (39 : Nat) ({ cls := "EtchedPlateModel", name := "burnish", desc := "(II)I" } : Jvm.MethodName)) ∈ lw_g := List.mem_filter.mpr ⟨List.mem_of_getElem? (i := 471) rfl, rfl⟩
set_option maxRecDepth 8000 in
theorem q_472 : (Cond.instanceMethod ({ cls := "EtchedPlateModel", name := "burnish", desc := "(II)I" } : Jvm.MethodName)) ∈ lw_g := List.mem_filter.mpr ⟨List.mem_of_getElem? (i := 472) rfl, rfl⟩
set_option maxRecDepth 8000 in
theorem q_473 : (Cond.selects "EtchedPlateModel" ({ cls := "EtchedPlateModel", name := "burnish", desc := "(II)I" } : Jvm.MethodName) ({ cls := "EtchedPlateModel", name := "burnish", desc := "(II)I" } : Jvm.MethodName)) ∈ lw_g := List.mem_filter.mpr ⟨List.mem_of_getElem? (i := 473) rfl, rfl⟩
set_option maxRecDepth 8000 in
theorem q_474 : (Cond.code ({ cls := "EtchedPlateModel", name := "burnish", desc := "(II)I" } : Jvm.MethodName) prog_5_method_15_code (3 : Nat) (Option.some Jvm.ClassFile.FieldType.int)) ∈ lw_g := List.mem_filter.mpr ⟨List.mem_of_getElem? (i := 474) rfl, rfl⟩
set_option maxRecDepth 8000 in
theorem q_475 : (Cond.methodLink "EtchedPlateModel" (52 : Nat) ({ cls := "EtchedPlateModel", name := "isLine", desc := "(I)Z" } : Jvm.MethodName)) ∈ lw_g := List.mem_filter.mpr ⟨List.mem_of_getElem? (i := 475) rfl, rfl⟩
set_option maxRecDepth 8000 in
theorem q_477 : (Cond.instanceMethod ({ cls := "EtchedPlateModel", name := "isLine", desc := "(I)Z" } : Jvm.MethodName)) ∈ lw_g := List.mem_filter.mpr ⟨List.mem_of_getElem? (i := 477) rfl, rfl⟩
set_option maxRecDepth 8000 in
theorem q_478 : (Cond.code ({ cls := "EtchedPlateModel", name := "isLine", desc := "(I)Z" } : Jvm.MethodName) prog_5_method_6_code (2 : Nat) (Option.some Jvm.ClassFile.FieldType.boolean)) ∈ lw_g := List.mem_filter.mpr ⟨List.mem_of_getElem? (i := 478) rfl, rfl⟩
set_option maxRecDepth 8000 in
theorem q_479 : (Cond.methodLink "EtchedPlateLaw" (43 : Nat) ({ cls := "EtchedPlateModel", name := "pull", desc := "()I" } : Jvm.MethodName)) ∈ lw_g := List.mem_filter.mpr ⟨List.mem_of_getElem? (i := 479) rfl, rfl⟩
set_option maxRecDepth 8000 in
theorem q_480 : (Cond.instanceMethod ({ cls := "EtchedPlateModel", name := "pull", desc := "()I" } : Jvm.MethodName)) ∈ lw_g := List.mem_filter.mpr ⟨List.mem_of_getElem? (i := 480) rfl, rfl⟩
set_option maxRecDepth 8000 in
theorem q_481 : (Cond.selects "EtchedPlateModel" ({ cls := "EtchedPlateModel", name := "pull", desc := "()I" } : Jvm.MethodName) ({ cls := "EtchedPlateModel", name := "pull", desc := "()I" } : Jvm.MethodName)) ∈ lw_g := List.mem_filter.mpr ⟨List.mem_of_getElem? (i := 481) rfl, rfl⟩
set_option maxRecDepth 8000 in
theorem q_482 : (Cond.code ({ cls := "EtchedPlateModel", name := "pull", desc := "()I" } : Jvm.MethodName) prog_5_method_16_code (3 : Nat) (Option.some Jvm.ClassFile.FieldType.int)) ∈ lw_g := List.mem_filter.mpr ⟨List.mem_of_getElem? (i := 482) rfl, rfl⟩
set_option maxRecDepth 8000 in
theorem q_483 : (Cond.methodLink "EtchedPlateLaw" (47 : Nat) ({ cls := "EtchedPlateModel", name := "lines", desc := "()I" } : Jvm.MethodName)) ∈ lw_g := List.mem_filter.mpr ⟨List.mem_of_getElem? (i := 483) rfl, rfl⟩
set_option maxRecDepth 8000 in
theorem q_484 : (Cond.instanceMethod ({ cls := "EtchedPlateModel", name := "lines", desc := "()I" } : Jvm.MethodName)) ∈ lw_g := List.mem_filter.mpr ⟨List.mem_of_getElem? (i := 484) rfl, rfl⟩
set_option maxRecDepth 8000 in
theorem q_485 : (Cond.selects "EtchedPlateModel" ({ cls := "EtchedPlateModel", name := "lines", desc := "()I" } : Jvm.MethodName) ({ cls := "EtchedPlateModel", name := "lines", desc := "()I" } : Jvm.MethodName)) ∈ lw_g := List.mem_filter.mpr ⟨List.mem_of_getElem? (i := 485) rfl, rfl⟩
set_option maxRecDepth 8000 in
theorem q_486 : (Cond.code ({ cls := "EtchedPlateModel", name := "lines", desc := "()I" } : Jvm.MethodName) prog_5_method_17_code (1 : Nat) (Option.some Jvm.ClassFile.FieldType.int)) ∈ lw_g := List.mem_filter.mpr ⟨List.mem_of_getElem? (i := 486) rfl, rfl⟩
set_option maxRecDepth 8000 in
theorem q_487 : (Cond.methodLink "EtchedPlateLaw" (51 : Nat) ({ cls := "EtchedPlateModel", name := "depth", desc := "(I)I" } : Jvm.MethodName)) ∈ lw_g := List.mem_filter.mpr ⟨List.mem_of_getElem? (i := 487) rfl, rfl⟩
set_option maxRecDepth 8000 in
theorem q_488 : (Cond.instanceMethod ({ cls := "EtchedPlateModel", name := "depth", desc := "(I)I" } : Jvm.MethodName)) ∈ lw_g := List.mem_filter.mpr ⟨List.mem_of_getElem? (i := 488) rfl, rfl⟩
set_option maxRecDepth 8000 in
theorem q_489 : (Cond.selects "EtchedPlateModel" ({ cls := "EtchedPlateModel", name := "depth", desc := "(I)I" } : Jvm.MethodName) ({ cls := "EtchedPlateModel", name := "depth", desc := "(I)I" } : Jvm.MethodName)) ∈ lw_g := List.mem_filter.mpr ⟨List.mem_of_getElem? (i := 489) rfl, rfl⟩
set_option maxRecDepth 8000 in
theorem q_490 : (Cond.code ({ cls := "EtchedPlateModel", name := "depth", desc := "(I)I" } : Jvm.MethodName) prog_5_method_18_code (2 : Nat) (Option.some Jvm.ClassFile.FieldType.int)) ∈ lw_g := List.mem_filter.mpr ⟨List.mem_of_getElem? (i := 490) rfl, rfl⟩
set_option maxRecDepth 8000 in
theorem q_491 : (Cond.methodLink "EtchedPlateLaw" (55 : Nat) ({ cls := "EtchedPlateModel", name := "varnished", desc := "()I" } : Jvm.MethodName)) ∈ lw_g := List.mem_filter.mpr ⟨List.mem_of_getElem? (i := 491) rfl, rfl⟩
set_option maxRecDepth 8000 in
theorem q_492 : (Cond.instanceMethod ({ cls := "EtchedPlateModel", name := "varnished", desc := "()I" } : Jvm.MethodName)) ∈ lw_g := List.mem_filter.mpr ⟨List.mem_of_getElem? (i := 492) rfl, rfl⟩
set_option maxRecDepth 8000 in
theorem q_493 : (Cond.selects "EtchedPlateModel" ({ cls := "EtchedPlateModel", name := "varnished", desc := "()I" } : Jvm.MethodName) ({ cls := "EtchedPlateModel", name := "varnished", desc := "()I" } : Jvm.MethodName)) ∈ lw_g := List.mem_filter.mpr ⟨List.mem_of_getElem? (i := 493) rfl, rfl⟩
set_option maxRecDepth 8000 in
theorem q_494 : (Cond.code ({ cls := "EtchedPlateModel", name := "varnished", desc := "()I" } : Jvm.MethodName) prog_5_method_19_code (1 : Nat) (Option.some Jvm.ClassFile.FieldType.int)) ∈ lw_g := List.mem_filter.mpr ⟨List.mem_of_getElem? (i := 494) rfl, rfl⟩
set_option maxRecDepth 8000 in
theorem q_495 : (Cond.methodLink "EtchedPlateLaw" (59 : Nat) ({ cls := "EtchedPlateModel", name := "meanDepthBits", desc := "()I" } : Jvm.MethodName)) ∈ lw_g := List.mem_filter.mpr ⟨List.mem_of_getElem? (i := 495) rfl, rfl⟩
set_option maxRecDepth 8000 in
theorem q_496 : (Cond.instanceMethod ({ cls := "EtchedPlateModel", name := "meanDepthBits", desc := "()I" } : Jvm.MethodName)) ∈ lw_g := List.mem_filter.mpr ⟨List.mem_of_getElem? (i := 496) rfl, rfl⟩
set_option maxRecDepth 8000 in
theorem q_497 : (Cond.selects "EtchedPlateModel" ({ cls := "EtchedPlateModel", name := "meanDepthBits", desc := "()I" } : Jvm.MethodName) ({ cls := "EtchedPlateModel", name := "meanDepthBits", desc := "()I" } : Jvm.MethodName)) ∈ lw_g := List.mem_filter.mpr ⟨List.mem_of_getElem? (i := 497) rfl, rfl⟩
set_option maxRecDepth 8000 in
theorem q_498 : (Cond.code ({ cls := "EtchedPlateModel", name := "meanDepthBits", desc := "()I" } : Jvm.MethodName) prog_5_method_20_code (3 : Nat) (Option.some Jvm.ClassFile.FieldType.int)) ∈ lw_g := List.mem_filter.mpr ⟨List.mem_of_getElem? (i := 498) rfl, rfl⟩
set_option maxRecDepth 8000 in
theorem q_499 : (Cond.methodLink "EtchedPlateModel" (56 : Nat) ({ cls := "java/lang/Float", name := "floatToIntBits", desc := "(F)I" } : Jvm.MethodName)) ∈ lw_g := List.mem_filter.mpr ⟨List.mem_of_getElem? (i := 499) rfl, rfl⟩
set_option maxRecDepth 8000 in
theorem q_500 : (Cond.static ({ cls := "java/lang/Float", name := "floatToIntBits", desc := "(F)I" } : Jvm.MethodName)) ∈ lw_g := List.mem_filter.mpr ⟨List.mem_of_getElem? (i := 500) rfl, rfl⟩
set_option maxRecDepth 8000 in
theorem q_501 : (Cond.code ({ cls := "java/lang/Float", name := "floatToIntBits", desc := "(F)I" } : Jvm.MethodName) prog_6_method_24_code (1 : Nat) (Option.some Jvm.ClassFile.FieldType.int)) ∈ lw_g := List.mem_filter.mpr ⟨List.mem_of_getElem? (i := 501) rfl, rfl⟩
set_option maxRecDepth 8000 in
theorem q_502 : (Cond.methodLink "java/lang/Float" (59 : Nat) ({ cls := "java/lang/Float", name := "isNaN", desc := "(F)Z" } : Jvm.MethodName)) ∈ lw_g := List.mem_filter.mpr ⟨List.mem_of_getElem? (i := 502) rfl, rfl⟩
set_option maxRecDepth 8000 in
theorem q_503 : (Cond.static ({ cls := "java/lang/Float", name := "isNaN", desc := "(F)Z" } : Jvm.MethodName)) ∈ lw_g := List.mem_filter.mpr ⟨List.mem_of_getElem? (i := 503) rfl, rfl⟩
set_option maxRecDepth 8000 in
theorem q_504 : (Cond.code ({ cls := "java/lang/Float", name := "isNaN", desc := "(F)Z" } : Jvm.MethodName) prog_6_method_6_code (1 : Nat) (Option.some Jvm.ClassFile.FieldType.boolean)) ∈ lw_g := List.mem_filter.mpr ⟨List.mem_of_getElem? (i := 504) rfl, rfl⟩
set_option maxRecDepth 8000 in
theorem q_505 : (Cond.methodLink "java/lang/Float" (74 : Nat) ({ cls := "java/lang/Float", name := "floatToRawIntBits", desc := "(F)I" } : Jvm.MethodName)) ∈ lw_g := List.mem_filter.mpr ⟨List.mem_of_getElem? (i := 505) rfl, rfl⟩
set_option maxRecDepth 8000 in
theorem q_506 : (Cond.static ({ cls := "java/lang/Float", name := "floatToRawIntBits", desc := "(F)I" } : Jvm.MethodName)) ∈ lw_g := List.mem_filter.mpr ⟨List.mem_of_getElem? (i := 506) rfl, rfl⟩
set_option maxRecDepth 8000 in
theorem q_507 : (Cond.native ({ cls := "java/lang/Float", name := "floatToRawIntBits", desc := "(F)I" } : Jvm.MethodName)) ∈ lw_g := List.mem_filter.mpr ⟨List.mem_of_getElem? (i := 507) rfl, rfl⟩
set_option maxRecDepth 8000 in
theorem q_508 : (Cond.constant "java/lang/Float" (77 : Nat) (2143289344 : Int32)) ∈ lw_g := List.mem_filter.mpr ⟨List.mem_of_getElem? (i := 508) rfl, rfl⟩
set_option maxRecDepth 8000 in
theorem q_509 : (Cond.methodLink "EtchedPlateLaw" (63 : Nat) ({ cls := "EtchedPlateModel", name := "prints", desc := "()I" } : Jvm.MethodName)) ∈ lw_g := List.mem_filter.mpr ⟨List.mem_of_getElem? (i := 509) rfl, rfl⟩
set_option maxRecDepth 8000 in
theorem q_510 : (Cond.instanceMethod ({ cls := "EtchedPlateModel", name := "prints", desc := "()I" } : Jvm.MethodName)) ∈ lw_g := List.mem_filter.mpr ⟨List.mem_of_getElem? (i := 510) rfl, rfl⟩
set_option maxRecDepth 8000 in
theorem q_511 : (Cond.selects "EtchedPlateModel" ({ cls := "EtchedPlateModel", name := "prints", desc := "()I" } : Jvm.MethodName) ({ cls := "EtchedPlateModel", name := "prints", desc := "()I" } : Jvm.MethodName)) ∈ lw_g := List.mem_filter.mpr ⟨List.mem_of_getElem? (i := 511) rfl, rfl⟩
set_option maxRecDepth 8000 in
theorem q_512 : (Cond.code ({ cls := "EtchedPlateModel", name := "prints", desc := "()I" } : Jvm.MethodName) prog_5_method_21_code (1 : Nat) (Option.some Jvm.ClassFile.FieldType.int)) ∈ lw_g := List.mem_filter.mpr ⟨List.mem_of_getElem? (i := 512) rfl, rfl⟩
set_option maxRecDepth 8000 in
theorem q_513 : (Cond.methodLink "EtchedPlateLaw" (67 : Nat) ({ cls := "EtchedPlateModel", name := "stateOf", desc := "(I)I" } : Jvm.MethodName)) ∈ lw_g := List.mem_filter.mpr ⟨List.mem_of_getElem? (i := 513) rfl, rfl⟩
set_option maxRecDepth 8000 in
theorem q_514 : (Cond.instanceMethod ({ cls := "EtchedPlateModel", name := "stateOf", desc := "(I)I" } : Jvm.MethodName)) ∈ lw_g := List.mem_filter.mpr ⟨List.mem_of_getElem? (i := 514) rfl, rfl⟩
set_option maxRecDepth 8000 in
theorem q_515 : (Cond.selects "EtchedPlateModel" ({ cls := "EtchedPlateModel", name := "stateOf", desc := "(I)I" } : Jvm.MethodName) ({ cls := "EtchedPlateModel", name := "stateOf", desc := "(I)I" } : Jvm.MethodName)) ∈ lw_g := List.mem_filter.mpr ⟨List.mem_of_getElem? (i := 515) rfl, rfl⟩
set_option maxRecDepth 8000 in
theorem q_516 : (Cond.code ({ cls := "EtchedPlateModel", name := "stateOf", desc := "(I)I" } : Jvm.MethodName) prog_5_method_22_code (2 : Nat) (Option.some Jvm.ClassFile.FieldType.int)) ∈ lw_g := List.mem_filter.mpr ⟨List.mem_of_getElem? (i := 516) rfl, rfl⟩
set_option maxRecDepth 8000 in
theorem q_517 : (Cond.methodLink "EtchedPlateModel" (62 : Nat) ({ cls := "EtchedPlateModel", name := "isPrint", desc := "(I)Z" } : Jvm.MethodName)) ∈ lw_g := List.mem_filter.mpr ⟨List.mem_of_getElem? (i := 517) rfl, rfl⟩
set_option maxRecDepth 8000 in
theorem q_519 : (Cond.instanceMethod ({ cls := "EtchedPlateModel", name := "isPrint", desc := "(I)Z" } : Jvm.MethodName)) ∈ lw_g := List.mem_filter.mpr ⟨List.mem_of_getElem? (i := 519) rfl, rfl⟩
set_option maxRecDepth 8000 in
theorem q_520 : (Cond.code ({ cls := "EtchedPlateModel", name := "isPrint", desc := "(I)Z" } : Jvm.MethodName) prog_5_method_7_code (2 : Nat) (Option.some Jvm.ClassFile.FieldType.boolean)) ∈ lw_g := List.mem_filter.mpr ⟨List.mem_of_getElem? (i := 520) rfl, rfl⟩
set_option maxRecDepth 8000 in
theorem q_521 : (Cond.methodLink "EtchedPlateLaw" (71 : Nat) ({ cls := "EtchedPlateModel", name := "tone", desc := "(II)I" } : Jvm.MethodName)) ∈ lw_g := List.mem_filter.mpr ⟨List.mem_of_getElem? (i := 521) rfl, rfl⟩
set_option maxRecDepth 8000 in
theorem q_522 : (Cond.instanceMethod ({ cls := "EtchedPlateModel", name := "tone", desc := "(II)I" } : Jvm.MethodName)) ∈ lw_g := List.mem_filter.mpr ⟨List.mem_of_getElem? (i := 522) rfl, rfl⟩
set_option maxRecDepth 8000 in
theorem q_523 : (Cond.selects "EtchedPlateModel" ({ cls := "EtchedPlateModel", name := "tone", desc := "(II)I" } : Jvm.MethodName) ({ cls := "EtchedPlateModel", name := "tone", desc := "(II)I" } : Jvm.MethodName)) ∈ lw_g := List.mem_filter.mpr ⟨List.mem_of_getElem? (i := 523) rfl, rfl⟩
set_option maxRecDepth 8000 in
theorem q_524 : (Cond.code ({ cls := "EtchedPlateModel", name := "tone", desc := "(II)I" } : Jvm.MethodName) prog_5_method_24_code (3 : Nat) (Option.some Jvm.ClassFile.FieldType.int)) ∈ lw_g := List.mem_filter.mpr ⟨List.mem_of_getElem? (i := 524) rfl, rfl⟩
set_option maxRecDepth 8000 in
theorem q_525 : (Cond.methodLink "EtchedPlateModel" (65 : Nat) ({ cls := "EtchedPlateModel", name := "toneOf", desc := "(II)I" } : Jvm.MethodName)) ∈ lw_g := List.mem_filter.mpr ⟨List.mem_of_getElem? (i := 525) rfl, rfl⟩
set_option maxRecDepth 8000 in
theorem q_527 : (Cond.instanceMethod ({ cls := "EtchedPlateModel", name := "toneOf", desc := "(II)I" } : Jvm.MethodName)) ∈ lw_g := List.mem_filter.mpr ⟨List.mem_of_getElem? (i := 527) rfl, rfl⟩
set_option maxRecDepth 8000 in
theorem q_528 : (Cond.code ({ cls := "EtchedPlateModel", name := "toneOf", desc := "(II)I" } : Jvm.MethodName) prog_5_method_23_code (3 : Nat) (Option.some Jvm.ClassFile.FieldType.int)) ∈ lw_g := List.mem_filter.mpr ⟨List.mem_of_getElem? (i := 528) rfl, rfl⟩
set_option maxRecDepth 8000 in
theorem q_529 : (Cond.methodLink "EtchedPlateLaw" (75 : Nat) ({ cls := "EtchedPlateModel", name := "mayPrecede", desc := "(II)I" } : Jvm.MethodName)) ∈ lw_g := List.mem_filter.mpr ⟨List.mem_of_getElem? (i := 529) rfl, rfl⟩
set_option maxRecDepth 8000 in
theorem q_530 : (Cond.instanceMethod ({ cls := "EtchedPlateModel", name := "mayPrecede", desc := "(II)I" } : Jvm.MethodName)) ∈ lw_g := List.mem_filter.mpr ⟨List.mem_of_getElem? (i := 530) rfl, rfl⟩
set_option maxRecDepth 8000 in
theorem q_531 : (Cond.selects "EtchedPlateModel" ({ cls := "EtchedPlateModel", name := "mayPrecede", desc := "(II)I" } : Jvm.MethodName) ({ cls := "EtchedPlateModel", name := "mayPrecede", desc := "(II)I" } : Jvm.MethodName)) ∈ lw_g := List.mem_filter.mpr ⟨List.mem_of_getElem? (i := 531) rfl, rfl⟩
set_option maxRecDepth 8000 in
theorem q_532 : (Cond.code ({ cls := "EtchedPlateModel", name := "mayPrecede", desc := "(II)I" } : Jvm.MethodName) prog_5_method_26_code (3 : Nat) (Option.some Jvm.ClassFile.FieldType.int)) ∈ lw_g := List.mem_filter.mpr ⟨List.mem_of_getElem? (i := 532) rfl, rfl⟩
set_option maxRecDepth 8000 in
theorem q_533 : (Cond.methodLink "EtchedPlateModel" (69 : Nat) ({ cls := "EtchedPlateModel", name := "may", desc := "(II)Z" } : Jvm.MethodName)) ∈ lw_g := List.mem_filter.mpr ⟨List.mem_of_getElem? (i := 533) rfl, rfl⟩
set_option maxRecDepth 8000 in
theorem q_535 : (Cond.instanceMethod ({ cls := "EtchedPlateModel", name := "may", desc := "(II)Z" } : Jvm.MethodName)) ∈ lw_g := List.mem_filter.mpr ⟨List.mem_of_getElem? (i := 535) rfl, rfl⟩
set_option maxRecDepth 8000 in
theorem q_536 : (Cond.code ({ cls := "EtchedPlateModel", name := "may", desc := "(II)Z" } : Jvm.MethodName) prog_5_method_25_code (5 : Nat) (Option.some Jvm.ClassFile.FieldType.boolean)) ∈ lw_g := List.mem_filter.mpr ⟨List.mem_of_getElem? (i := 536) rfl, rfl⟩
set_option maxRecDepth 8000 in
theorem q_537 : (Cond.methodLink "EtchedPlateLaw" (79 : Nat) ({ cls := "EtchedPlateModel", name := "orders", desc := "(I)I" } : Jvm.MethodName)) ∈ lw_g := List.mem_filter.mpr ⟨List.mem_of_getElem? (i := 537) rfl, rfl⟩
set_option maxRecDepth 8000 in
theorem q_538 : (Cond.instanceMethod ({ cls := "EtchedPlateModel", name := "orders", desc := "(I)I" } : Jvm.MethodName)) ∈ lw_g := List.mem_filter.mpr ⟨List.mem_of_getElem? (i := 538) rfl, rfl⟩
set_option maxRecDepth 8000 in
theorem q_539 : (Cond.selects "EtchedPlateModel" ({ cls := "EtchedPlateModel", name := "orders", desc := "(I)I" } : Jvm.MethodName) ({ cls := "EtchedPlateModel", name := "orders", desc := "(I)I" } : Jvm.MethodName)) ∈ lw_g := List.mem_filter.mpr ⟨List.mem_of_getElem? (i := 539) rfl, rfl⟩
set_option maxRecDepth 8000 in
theorem q_540 : (Cond.code ({ cls := "EtchedPlateModel", name := "orders", desc := "(I)I" } : Jvm.MethodName) prog_5_method_28_code (2 : Nat) (Option.some Jvm.ClassFile.FieldType.int)) ∈ lw_g := List.mem_filter.mpr ⟨List.mem_of_getElem? (i := 540) rfl, rfl⟩
set_option maxRecDepth 8000 in
theorem q_541 : (Cond.methodLink "EtchedPlateModel" (73 : Nat) ({ cls := "EtchedPlateModel", name := "ordersOf", desc := "(I)I" } : Jvm.MethodName)) ∈ lw_g := List.mem_filter.mpr ⟨List.mem_of_getElem? (i := 541) rfl, rfl⟩
set_option maxRecDepth 8000 in
theorem q_543 : (Cond.instanceMethod ({ cls := "EtchedPlateModel", name := "ordersOf", desc := "(I)I" } : Jvm.MethodName)) ∈ lw_g := List.mem_filter.mpr ⟨List.mem_of_getElem? (i := 543) rfl, rfl⟩
set_option maxRecDepth 8000 in
theorem q_544 : (Cond.code ({ cls := "EtchedPlateModel", name := "ordersOf", desc := "(I)I" } : Jvm.MethodName) prog_5_method_27_code (5 : Nat) (Option.some Jvm.ClassFile.FieldType.int)) ∈ lw_g := List.mem_filter.mpr ⟨List.mem_of_getElem? (i := 544) rfl, rfl⟩
set_option maxRecDepth 8000 in
theorem q_545 : (Cond.methodLink "EtchedPlateLaw" (83 : Nat) ({ cls := "EtchedPlateModel", name := "bestState", desc := "()I" } : Jvm.MethodName)) ∈ lw_g := List.mem_filter.mpr ⟨List.mem_of_getElem? (i := 545) rfl, rfl⟩
set_option maxRecDepth 8000 in
theorem q_546 : (Cond.instanceMethod ({ cls := "EtchedPlateModel", name := "bestState", desc := "()I" } : Jvm.MethodName)) ∈ lw_g := List.mem_filter.mpr ⟨List.mem_of_getElem? (i := 546) rfl, rfl⟩
set_option maxRecDepth 8000 in
theorem q_547 : (Cond.selects "EtchedPlateModel" ({ cls := "EtchedPlateModel", name := "bestState", desc := "()I" } : Jvm.MethodName) ({ cls := "EtchedPlateModel", name := "bestState", desc := "()I" } : Jvm.MethodName)) ∈ lw_g := List.mem_filter.mpr ⟨List.mem_of_getElem? (i := 547) rfl, rfl⟩
set_option maxRecDepth 8000 in
theorem q_548 : (Cond.code ({ cls := "EtchedPlateModel", name := "bestState", desc := "()I" } : Jvm.MethodName) prog_5_method_29_code (7 : Nat) (Option.some Jvm.ClassFile.FieldType.int)) ∈ lw_g := List.mem_filter.mpr ⟨List.mem_of_getElem? (i := 548) rfl, rfl⟩
set_option maxRecDepth 8000 in
theorem q_549 : (Cond.methodLink "EtchedPlateLaw" (87 : Nat) ({ cls := "EtchedPlateModel", name := "setTarget", desc := "(II)I" } : Jvm.MethodName)) ∈ lw_g := List.mem_filter.mpr ⟨List.mem_of_getElem? (i := 549) rfl, rfl⟩
set_option maxRecDepth 8000 in
theorem q_550 : (Cond.instanceMethod ({ cls := "EtchedPlateModel", name := "setTarget", desc := "(II)I" } : Jvm.MethodName)) ∈ lw_g := List.mem_filter.mpr ⟨List.mem_of_getElem? (i := 550) rfl, rfl⟩
set_option maxRecDepth 8000 in
theorem q_551 : (Cond.selects "EtchedPlateModel" ({ cls := "EtchedPlateModel", name := "setTarget", desc := "(II)I" } : Jvm.MethodName) ({ cls := "EtchedPlateModel", name := "setTarget", desc := "(II)I" } : Jvm.MethodName)) ∈ lw_g := List.mem_filter.mpr ⟨List.mem_of_getElem? (i := 551) rfl, rfl⟩
set_option maxRecDepth 8000 in
theorem q_552 : (Cond.code ({ cls := "EtchedPlateModel", name := "setTarget", desc := "(II)I" } : Jvm.MethodName) prog_5_method_30_code (4 : Nat) (Option.some Jvm.ClassFile.FieldType.int)) ∈ lw_g := List.mem_filter.mpr ⟨List.mem_of_getElem? (i := 552) rfl, rfl⟩
set_option maxRecDepth 8000 in
theorem q_553 : (Cond.methodLink "EtchedPlateLaw" (91 : Nat) ({ cls := "EtchedPlateModel", name := "dips", desc := "()I" } : Jvm.MethodName)) ∈ lw_g := List.mem_filter.mpr ⟨List.mem_of_getElem? (i := 553) rfl, rfl⟩
set_option maxRecDepth 8000 in
theorem q_554 : (Cond.instanceMethod ({ cls := "EtchedPlateModel", name := "dips", desc := "()I" } : Jvm.MethodName)) ∈ lw_g := List.mem_filter.mpr ⟨List.mem_of_getElem? (i := 554) rfl, rfl⟩
set_option maxRecDepth 8000 in
theorem q_555 : (Cond.selects "EtchedPlateModel" ({ cls := "EtchedPlateModel", name := "dips", desc := "()I" } : Jvm.MethodName) ({ cls := "EtchedPlateModel", name := "dips", desc := "()I" } : Jvm.MethodName)) ∈ lw_g := List.mem_filter.mpr ⟨List.mem_of_getElem? (i := 555) rfl, rfl⟩
set_option maxRecDepth 8000 in
theorem q_556 : (Cond.code ({ cls := "EtchedPlateModel", name := "dips", desc := "()I" } : Jvm.MethodName) prog_5_method_38_code (1 : Nat) (Option.some Jvm.ClassFile.FieldType.int)) ∈ lw_g := List.mem_filter.mpr ⟨List.mem_of_getElem? (i := 556) rfl, rfl⟩
set_option maxRecDepth 8000 in
theorem q_557 : (Cond.methodLink "EtchedPlateModel" (88 : Nat) ({ cls := "EtchedPlateModel", name := "blocked", desc := "()I" } : Jvm.MethodName)) ∈ lw_g := List.mem_filter.mpr ⟨List.mem_of_getElem? (i := 557) rfl, rfl⟩
set_option maxRecDepth 8000 in
theorem q_559 : (Cond.instanceMethod ({ cls := "EtchedPlateModel", name := "blocked", desc := "()I" } : Jvm.MethodName)) ∈ lw_g := List.mem_filter.mpr ⟨List.mem_of_getElem? (i := 559) rfl, rfl⟩
set_option maxRecDepth 8000 in
theorem q_560 : (Cond.code ({ cls := "EtchedPlateModel", name := "blocked", desc := "()I" } : Jvm.MethodName) prog_5_method_33_code (3 : Nat) (Option.some Jvm.ClassFile.FieldType.int)) ∈ lw_g := List.mem_filter.mpr ⟨List.mem_of_getElem? (i := 560) rfl, rfl⟩
set_option maxRecDepth 8000 in
theorem q_561 : (Cond.methodLink "EtchedPlateModel" (79 : Nat) ({ cls := "EtchedPlateModel", name := "greatest", desc := "(I)I" } : Jvm.MethodName)) ∈ lw_g := List.mem_filter.mpr ⟨List.mem_of_getElem? (i := 561) rfl, rfl⟩
set_option maxRecDepth 8000 in
theorem q_563 : (Cond.instanceMethod ({ cls := "EtchedPlateModel", name := "greatest", desc := "(I)I" } : Jvm.MethodName)) ∈ lw_g := List.mem_filter.mpr ⟨List.mem_of_getElem? (i := 563) rfl, rfl⟩
set_option maxRecDepth 8000 in
theorem q_564 : (Cond.code ({ cls := "EtchedPlateModel", name := "greatest", desc := "(I)I" } : Jvm.MethodName) prog_5_method_32_code (3 : Nat) (Option.some Jvm.ClassFile.FieldType.int)) ∈ lw_g := List.mem_filter.mpr ⟨List.mem_of_getElem? (i := 564) rfl, rfl⟩
set_option maxRecDepth 8000 in
theorem q_565 : (Cond.methodLink "EtchedPlateModel" (76 : Nat) ({ cls := "EtchedPlateModel", name := "allows", desc := "(II)Z" } : Jvm.MethodName)) ∈ lw_g := List.mem_filter.mpr ⟨List.mem_of_getElem? (i := 565) rfl, rfl⟩
set_option maxRecDepth 8000 in
theorem q_567 : (Cond.instanceMethod ({ cls := "EtchedPlateModel", name := "allows", desc := "(II)Z" } : Jvm.MethodName)) ∈ lw_g := List.mem_filter.mpr ⟨List.mem_of_getElem? (i := 567) rfl, rfl⟩
set_option maxRecDepth 8000 in
theorem q_568 : (Cond.code ({ cls := "EtchedPlateModel", name := "allows", desc := "(II)Z" } : Jvm.MethodName) prog_5_method_31_code (3 : Nat) (Option.some Jvm.ClassFile.FieldType.boolean)) ∈ lw_g := List.mem_filter.mpr ⟨List.mem_of_getElem? (i := 568) rfl, rfl⟩
set_option maxRecDepth 8000 in
theorem q_569 : (Cond.methodLink "EtchedPlateModel" (92 : Nat) ({ cls := "EtchedPlateModel", name := "plans", desc := "()V" } : Jvm.MethodName)) ∈ lw_g := List.mem_filter.mpr ⟨List.mem_of_getElem? (i := 569) rfl, rfl⟩
set_option maxRecDepth 8000 in
theorem q_571 : (Cond.instanceMethod ({ cls := "EtchedPlateModel", name := "plans", desc := "()V" } : Jvm.MethodName)) ∈ lw_g := List.mem_filter.mpr ⟨List.mem_of_getElem? (i := 571) rfl, rfl⟩
set_option maxRecDepth 8000 in
theorem q_572 : (Cond.code ({ cls := "EtchedPlateModel", name := "plans", desc := "()V" } : Jvm.MethodName) prog_5_method_35_code (3 : Nat) (Option.none : Option Jvm.ClassFile.FieldType)) ∈ lw_g := List.mem_filter.mpr ⟨List.mem_of_getElem? (i := 572) rfl, rfl⟩
set_option maxRecDepth 8000 in
theorem q_573 : (Cond.methodLink "EtchedPlateModel" (85 : Nat) ({ cls := "EtchedPlateModel", name := "usedBy", desc := "(I)I" } : Jvm.MethodName)) ∈ lw_g := List.mem_filter.mpr ⟨List.mem_of_getElem? (i := 573) rfl, rfl⟩
set_option maxRecDepth 8000 in
theorem q_575 : (Cond.instanceMethod ({ cls := "EtchedPlateModel", name := "usedBy", desc := "(I)I" } : Jvm.MethodName)) ∈ lw_g := List.mem_filter.mpr ⟨List.mem_of_getElem? (i := 575) rfl, rfl⟩
set_option maxRecDepth 8000 in
theorem q_576 : (Cond.code ({ cls := "EtchedPlateModel", name := "usedBy", desc := "(I)I" } : Jvm.MethodName) prog_5_method_34_code (3 : Nat) (Option.some Jvm.ClassFile.FieldType.int)) ∈ lw_g := List.mem_filter.mpr ⟨List.mem_of_getElem? (i := 576) rfl, rfl⟩
set_option maxRecDepth 8000 in
theorem q_577 : (Cond.methodLink "EtchedPlateLaw" (95 : Nat) ({ cls := "EtchedPlateModel", name := "dipMinutes", desc := "(I)I" } : Jvm.MethodName)) ∈ lw_g := List.mem_filter.mpr ⟨List.mem_of_getElem? (i := 577) rfl, rfl⟩
set_option maxRecDepth 8000 in
theorem q_578 : (Cond.instanceMethod ({ cls := "EtchedPlateModel", name := "dipMinutes", desc := "(I)I" } : Jvm.MethodName)) ∈ lw_g := List.mem_filter.mpr ⟨List.mem_of_getElem? (i := 578) rfl, rfl⟩
set_option maxRecDepth 8000 in
theorem q_579 : (Cond.selects "EtchedPlateModel" ({ cls := "EtchedPlateModel", name := "dipMinutes", desc := "(I)I" } : Jvm.MethodName) ({ cls := "EtchedPlateModel", name := "dipMinutes", desc := "(I)I" } : Jvm.MethodName)) ∈ lw_g := List.mem_filter.mpr ⟨List.mem_of_getElem? (i := 579) rfl, rfl⟩
set_option maxRecDepth 8000 in
theorem q_580 : (Cond.code ({ cls := "EtchedPlateModel", name := "dipMinutes", desc := "(I)I" } : Jvm.MethodName) prog_5_method_40_code (3 : Nat) (Option.some Jvm.ClassFile.FieldType.int)) ∈ lw_g := List.mem_filter.mpr ⟨List.mem_of_getElem? (i := 580) rfl, rfl⟩
set_option maxRecDepth 8000 in
theorem q_581 : (Cond.methodLink "EtchedPlateModel" (95 : Nat) ({ cls := "EtchedPlateModel", name := "against", desc := "(I)I" } : Jvm.MethodName)) ∈ lw_g := List.mem_filter.mpr ⟨List.mem_of_getElem? (i := 581) rfl, rfl⟩
set_option maxRecDepth 8000 in
theorem q_583 : (Cond.instanceMethod ({ cls := "EtchedPlateModel", name := "against", desc := "(I)I" } : Jvm.MethodName)) ∈ lw_g := List.mem_filter.mpr ⟨List.mem_of_getElem? (i := 583) rfl, rfl⟩
set_option maxRecDepth 8000 in
theorem q_584 : (Cond.code ({ cls := "EtchedPlateModel", name := "against", desc := "(I)I" } : Jvm.MethodName) prog_5_method_39_code (2 : Nat) (Option.some Jvm.ClassFile.FieldType.int)) ∈ lw_g := List.mem_filter.mpr ⟨List.mem_of_getElem? (i := 584) rfl, rfl⟩
set_option maxRecDepth 8000 in
theorem q_585 : (Cond.methodLink "EtchedPlateModel" (98 : Nat) ({ cls := "EtchedPlateModel", name := "minutesOf", desc := "(I)I" } : Jvm.MethodName)) ∈ lw_g := List.mem_filter.mpr ⟨List.mem_of_getElem? (i := 585) rfl, rfl⟩
set_option maxRecDepth 8000 in
theorem q_587 : (Cond.instanceMethod ({ cls := "EtchedPlateModel", name := "minutesOf", desc := "(I)I" } : Jvm.MethodName)) ∈ lw_g := List.mem_filter.mpr ⟨List.mem_of_getElem? (i := 587) rfl, rfl⟩
set_option maxRecDepth 8000 in
theorem q_588 : (Cond.code ({ cls := "EtchedPlateModel", name := "minutesOf", desc := "(I)I" } : Jvm.MethodName) prog_5_method_36_code (2 : Nat) (Option.some Jvm.ClassFile.FieldType.int)) ∈ lw_g := List.mem_filter.mpr ⟨List.mem_of_getElem? (i := 588) rfl, rfl⟩
set_option maxRecDepth 8000 in
theorem q_589 : (Cond.methodLink "EtchedPlateLaw" (99 : Nat) ({ cls := "EtchedPlateModel", name := "dipVarnish", desc := "(I)I" } : Jvm.MethodName)) ∈ lw_g := List.mem_filter.mpr ⟨List.mem_of_getElem? (i := 589) rfl, rfl⟩
set_option maxRecDepth 8000 in
theorem q_590 : (Cond.instanceMethod ({ cls := "EtchedPlateModel", name := "dipVarnish", desc := "(I)I" } : Jvm.MethodName)) ∈ lw_g := List.mem_filter.mpr ⟨List.mem_of_getElem? (i := 590) rfl, rfl⟩
set_option maxRecDepth 8000 in
theorem q_591 : (Cond.selects "EtchedPlateModel" ({ cls := "EtchedPlateModel", name := "dipVarnish", desc := "(I)I" } : Jvm.MethodName) ({ cls := "EtchedPlateModel", name := "dipVarnish", desc := "(I)I" } : Jvm.MethodName)) ∈ lw_g := List.mem_filter.mpr ⟨List.mem_of_getElem? (i := 591) rfl, rfl⟩
set_option maxRecDepth 8000 in
theorem q_592 : (Cond.code ({ cls := "EtchedPlateModel", name := "dipVarnish", desc := "(I)I" } : Jvm.MethodName) prog_5_method_41_code (3 : Nat) (Option.some Jvm.ClassFile.FieldType.int)) ∈ lw_g := List.mem_filter.mpr ⟨List.mem_of_getElem? (i := 592) rfl, rfl⟩
set_option maxRecDepth 8000 in
theorem q_593 : (Cond.methodLink "EtchedPlateModel" (101 : Nat) ({ cls := "EtchedPlateModel", name := "doneBefore", desc := "(I)I" } : Jvm.MethodName)) ∈ lw_g := List.mem_filter.mpr ⟨List.mem_of_getElem? (i := 593) rfl, rfl⟩
set_option maxRecDepth 8000 in
theorem q_595 : (Cond.instanceMethod ({ cls := "EtchedPlateModel", name := "doneBefore", desc := "(I)I" } : Jvm.MethodName)) ∈ lw_g := List.mem_filter.mpr ⟨List.mem_of_getElem? (i := 595) rfl, rfl⟩
set_option maxRecDepth 8000 in
theorem q_596 : (Cond.code ({ cls := "EtchedPlateModel", name := "doneBefore", desc := "(I)I" } : Jvm.MethodName) prog_5_method_37_code (4 : Nat) (Option.some Jvm.ClassFile.FieldType.int)) ∈ lw_g := List.mem_filter.mpr ⟨List.mem_of_getElem? (i := 596) rfl, rfl⟩
set_option maxRecDepth 8000 in
theorem q_597 : (Cond.methodLink "EtchedPlateLaw" (103 : Nat) ({ cls := "EtchedPlateModel", name := "obstacles", desc := "()I" } : Jvm.MethodName)) ∈ lw_g := List.mem_filter.mpr ⟨List.mem_of_getElem? (i := 597) rfl, rfl⟩
set_option maxRecDepth 8000 in
theorem q_598 : (Cond.instanceMethod ({ cls := "EtchedPlateModel", name := "obstacles", desc := "()I" } : Jvm.MethodName)) ∈ lw_g := List.mem_filter.mpr ⟨List.mem_of_getElem? (i := 598) rfl, rfl⟩
set_option maxRecDepth 8000 in
theorem q_599 : (Cond.selects "EtchedPlateModel" ({ cls := "EtchedPlateModel", name := "obstacles", desc := "()I" } : Jvm.MethodName) ({ cls := "EtchedPlateModel", name := "obstacles", desc := "()I" } : Jvm.MethodName)) ∈ lw_g := List.mem_filter.mpr ⟨List.mem_of_getElem? (i := 599) rfl, rfl⟩
set_option maxRecDepth 8000 in
theorem q_600 : (Cond.code ({ cls := "EtchedPlateModel", name := "obstacles", desc := "()I" } : Jvm.MethodName) prog_5_method_42_code (1 : Nat) (Option.some Jvm.ClassFile.FieldType.int)) ∈ lw_g := List.mem_filter.mpr ⟨List.mem_of_getElem? (i := 600) rfl, rfl⟩
set_option maxRecDepth 8000 in
theorem q_601 : (Cond.methodLink "EtchedPlateLaw" (111 : Nat) ({ cls := "EtchedPlateModel", name := "errorCount", desc := "(I)I" } : Jvm.MethodName)) ∈ lw_g := List.mem_filter.mpr ⟨List.mem_of_getElem? (i := 601) rfl, rfl⟩
set_option maxRecDepth 8000 in
theorem q_602 : (Cond.instanceMethod ({ cls := "EtchedPlateModel", name := "errorCount", desc := "(I)I" } : Jvm.MethodName)) ∈ lw_g := List.mem_filter.mpr ⟨List.mem_of_getElem? (i := 602) rfl, rfl⟩
set_option maxRecDepth 8000 in
theorem q_603 : (Cond.selects "EtchedPlateModel" ({ cls := "EtchedPlateModel", name := "errorCount", desc := "(I)I" } : Jvm.MethodName) ({ cls := "EtchedPlateModel", name := "errorCount", desc := "(I)I" } : Jvm.MethodName)) ∈ lw_g := List.mem_filter.mpr ⟨List.mem_of_getElem? (i := 603) rfl, rfl⟩
set_option maxRecDepth 8000 in
theorem q_604 : (Cond.code ({ cls := "EtchedPlateModel", name := "errorCount", desc := "(I)I" } : Jvm.MethodName) prog_5_method_43_code (2 : Nat) (Option.some Jvm.ClassFile.FieldType.int)) ∈ lw_g := List.mem_filter.mpr ⟨List.mem_of_getElem? (i := 604) rfl, rfl⟩
set_option maxRecDepth 8000 in
theorem q_605 : (Cond.methodLink "EtchedPlateLaw" (116 : Nat) ({ cls := "EtchedPlateModel", name := "digest", desc := "()J" } : Jvm.MethodName)) ∈ lw_g := List.mem_filter.mpr ⟨List.mem_of_getElem? (i := 605) rfl, rfl⟩
set_option maxRecDepth 8000 in
theorem q_606 : (Cond.instanceMethod ({ cls := "EtchedPlateModel", name := "digest", desc := "()J" } : Jvm.MethodName)) ∈ lw_g := List.mem_filter.mpr ⟨List.mem_of_getElem? (i := 606) rfl, rfl⟩
set_option maxRecDepth 8000 in
theorem q_607 : (Cond.selects "EtchedPlateModel" ({ cls := "EtchedPlateModel", name := "digest", desc := "()J" } : Jvm.MethodName) ({ cls := "EtchedPlateModel", name := "digest", desc := "()J" } : Jvm.MethodName)) ∈ lw_g := List.mem_filter.mpr ⟨List.mem_of_getElem? (i := 607) rfl, rfl⟩
set_option maxRecDepth 8000 in
theorem q_608 : (Cond.code ({ cls := "EtchedPlateModel", name := "digest", desc := "()J" } : Jvm.MethodName) prog_5_method_47_code (2 : Nat) (Option.some Jvm.ClassFile.FieldType.long)) ∈ lw_g := List.mem_filter.mpr ⟨List.mem_of_getElem? (i := 608) rfl, rfl⟩
set_option maxRecDepth 8000 in
theorem q_609 : (Cond.constantLong "EtchedPlateModel" (114 : Nat) (2689 : Int64)) ∈ lw_g := List.mem_filter.mpr ⟨List.mem_of_getElem? (i := 609) rfl, rfl⟩
set_option maxRecDepth 8000 in
theorem q_610 : (Cond.methodLink "EtchedPlateModel" (110 : Nat) ({ cls := "EtchedPlateModel", name := "mix", desc := "(I)V" } : Jvm.MethodName)) ∈ lw_g := List.mem_filter.mpr ⟨List.mem_of_getElem? (i := 610) rfl, rfl⟩
set_option maxRecDepth 8000 in
theorem q_612 : (Cond.instanceMethod ({ cls := "EtchedPlateModel", name := "mix", desc := "(I)V" } : Jvm.MethodName)) ∈ lw_g := List.mem_filter.mpr ⟨List.mem_of_getElem? (i := 612) rfl, rfl⟩
set_option maxRecDepth 8000 in
theorem q_613 : (Cond.code ({ cls := "EtchedPlateModel", name := "mix", desc := "(I)V" } : Jvm.MethodName) prog_5_method_44_code (2 : Nat) (Option.none : Option Jvm.ClassFile.FieldType)) ∈ lw_g := List.mem_filter.mpr ⟨List.mem_of_getElem? (i := 613) rfl, rfl⟩
set_option maxRecDepth 8000 in
theorem q_614 : (Cond.constantLong "EtchedPlateModel" (104 : Nat) (31 : Int64)) ∈ lw_g := List.mem_filter.mpr ⟨List.mem_of_getElem? (i := 614) rfl, rfl⟩
set_option maxRecDepth 8000 in
theorem q_615 : (Cond.methodLink "EtchedPlateModel" (116 : Nat) ({ cls := "EtchedPlateModel", name := "mixPrints", desc := "()V" } : Jvm.MethodName)) ∈ lw_g := List.mem_filter.mpr ⟨List.mem_of_getElem? (i := 615) rfl, rfl⟩
set_option maxRecDepth 8000 in
theorem q_617 : (Cond.instanceMethod ({ cls := "EtchedPlateModel", name := "mixPrints", desc := "()V" } : Jvm.MethodName)) ∈ lw_g := List.mem_filter.mpr ⟨List.mem_of_getElem? (i := 617) rfl, rfl⟩
set_option maxRecDepth 8000 in
theorem q_618 : (Cond.code ({ cls := "EtchedPlateModel", name := "mixPrints", desc := "()V" } : Jvm.MethodName) prog_5_method_45_code (3 : Nat) (Option.none : Option Jvm.ClassFile.FieldType)) ∈ lw_g := List.mem_filter.mpr ⟨List.mem_of_getElem? (i := 618) rfl, rfl⟩
set_option maxRecDepth 8000 in
theorem q_619 : (Cond.methodLink "EtchedPlateModel" (119 : Nat) ({ cls := "EtchedPlateModel", name := "mixPlan", desc := "()V" } : Jvm.MethodName)) ∈ lw_g := List.mem_filter.mpr ⟨List.mem_of_getElem? (i := 619) rfl, rfl⟩
set_option maxRecDepth 8000 in
theorem q_621 : (Cond.instanceMethod ({ cls := "EtchedPlateModel", name := "mixPlan", desc := "()V" } : Jvm.MethodName)) ∈ lw_g := List.mem_filter.mpr ⟨List.mem_of_getElem? (i := 621) rfl, rfl⟩
set_option maxRecDepth 8000 in
theorem q_622 : (Cond.code ({ cls := "EtchedPlateModel", name := "mixPlan", desc := "()V" } : Jvm.MethodName) prog_5_method_46_code (2 : Nat) (Option.none : Option Jvm.ClassFile.FieldType)) ∈ lw_g := List.mem_filter.mpr ⟨List.mem_of_getElem? (i := 622) rfl, rfl⟩
theorem q_AC : Cond.arrayClass .int ∈ lw_g := q_92
theorem q_OI : Cond.instanceMethod objectInit ∈ lw_g := q_47
theorem q_OC : Cond.code objectInit ⟨#[0xb1]⟩ 1 none ∈ lw_g := q_48
theorem q_MI : Cond.initialized "java/lang/Math" ∈ lw_g := q_38
theorem q_SI : Cond.initialized "java/lang/System" ∈ lw_g := q_37
theorem q_CpN : Cond.native arraycopyName ∈ lw_g := q_162
theorem q_CpS : Cond.static arraycopyName ∈ lw_g := q_161
theorem q_MinS : Cond.static Lib.Math.min.name ∈ lw_g := q_183
theorem q_MinC : Cond.code Lib.Math.min.name Lib.Math.min.code 2 (some .int) ∈ lw_g := q_184
theorem q_MaxS : Cond.static Lib.Math.max.name ∈ lw_g := q_218
theorem q_MaxC : Cond.code Lib.Math.max.name Lib.Math.max.code 2 (some .int) ∈ lw_g := q_219
theorem q_AbsS : Cond.static Lib.Math.abs.name ∈ lw_g := q_307
theorem q_AbsC : Cond.code Lib.Math.abs.name Lib.Math.abs.code 1 (some .int) ∈ lw_g := q_308
-- nest word 0: q_51
-- nest word 1: q_96
-- nest word 2: q_179
-- nest word 3: q_93
end
section
theorem dX0_init_0 : Dc cX0_init 0 1 1 (.aload_n 0) := ⟨by decide +kernel, rfl⟩
theorem dX0_init_1 : Dc cX0_init 1 3 4 (.invokespecial 3) := ⟨by decide +kernel, rfl⟩
theorem dX0_init_4 : Dc cX0_init 4 1 5 (.aload_n 0) := ⟨by decide +kernel, rfl⟩
theorem dX0_init_5 : Dc cX0_init 5 2 7 (.bipush 10) := ⟨by decide +kernel, rfl⟩
theorem dX0_init_7 : Dc cX0_init 7 2 9 (.newarray .int) := ⟨by decide +kernel, rfl⟩
theorem dX0_init_9 : Dc cX0_init 9 3 12 (.putfield 9) := ⟨by decide +kernel, rfl⟩
theorem dX0_init_12 : Dc cX0_init 12 1 13 (.aload_n 0) := ⟨by decide +kernel, rfl⟩
theorem dX0_init_13 : Dc cX0_init 13 2 15 (.bipush 10) := ⟨by decide +kernel, rfl⟩
theorem dX0_init_15 : Dc cX0_init 15 2 17 (.newarray .int) := ⟨by decide +kernel, rfl⟩
theorem dX0_init_17 : Dc cX0_init 17 3 20 (.putfield 15) := ⟨by decide +kernel, rfl⟩
theorem dX0_init_20 : Dc cX0_init 20 1 21 (.aload_n 0) := ⟨by decide +kernel, rfl⟩
theorem dX0_init_21 : Dc cX0_init 21 2 23 (.bipush 10) := ⟨by decide +kernel, rfl⟩
theorem dX0_init_23 : Dc cX0_init 23 2 25 (.newarray .int) := ⟨by decide +kernel, rfl⟩
theorem dX0_init_25 : Dc cX0_init 25 3 28 (.putfield 18) := ⟨by decide +kernel, rfl⟩
theorem dX0_init_28 : Dc cX0_init 28 1 29 (.aload_n 0) := ⟨by decide +kernel, rfl⟩
theorem dX0_init_29 : Dc cX0_init 29 1 30 (.iconst 0) := ⟨by decide +kernel, rfl⟩
theorem dX0_init_30 : Dc cX0_init 30 3 33 (.putfield 21) := ⟨by decide +kernel, rfl⟩
theorem dX0_init_33 : Dc cX0_init 33 1 34 (.aload_n 0) := ⟨by decide +kernel, rfl⟩
theorem dX0_init_34 : Dc cX0_init 34 1 35 (.iconst 0) := ⟨by decide +kernel, rfl⟩
theorem dX0_init_35 : Dc cX0_init 35 3 38 (.putfield 25) := ⟨by decide +kernel, rfl⟩
theorem dX0_init_38 : Dc cX0_init 38 1 39 (.aload_n 0) := ⟨by decide +kernel, rfl⟩
theorem dX0_init_39 : Dc cX0_init 39 1 40 (.iconst 0) := ⟨by decide +kernel, rfl⟩
theorem dX0_init_40 : Dc cX0_init 40 3 43 (.putfield 28) := ⟨by decide +kernel, rfl⟩
theorem dX0_init_43 : Dc cX0_init 43 1 44 (.return_) := ⟨by decide +kernel, rfl⟩
theorem dX0_make_0 : Dc cX0_make 0 1 1 (.aload_n 0) := ⟨by decide +kernel, rfl⟩
theorem dX0_make_1 : Dc cX0_make 1 1 2 (.aload_n 1) := ⟨by decide +kernel, rfl⟩
theorem dX0_make_2 : Dc cX0_make 2 3 5 (.getfield 31) := ⟨by decide +kernel, rfl⟩
theorem dX0_make_5 : Dc cX0_make 5 3 8 (.putfield 21) := ⟨by decide +kernel, rfl⟩
theorem dX0_make_8 : Dc cX0_make 8 1 9 (.aload_n 0) := ⟨by decide +kernel, rfl⟩
theorem dX0_make_9 : Dc cX0_make 9 1 10 (.iconst 0) := ⟨by decide +kernel, rfl⟩
theorem dX0_make_10 : Dc cX0_make 10 3 13 (.putfield 28) := ⟨by decide +kernel, rfl⟩
theorem dX0_make_13 : Dc cX0_make 13 1 14 (.iconst 0) := ⟨by decide +kernel, rfl⟩
theorem dX0_make_14 : Dc cX0_make 14 1 15 (.istore_n 3) := ⟨by decide +kernel, rfl⟩
theorem dX0_make_15 : Dc cX0_make 15 1 16 (.iload_n 3) := ⟨by decide +kernel, rfl⟩
theorem dX0_make_16 : Dc cX0_make 16 1 17 (.aload_n 0) := ⟨by decide +kernel, rfl⟩
theorem dX0_make_17 : Dc cX0_make 17 3 20 (.getfield 21) := ⟨by decide +kernel, rfl⟩
theorem dX0_make_20 : Dc cX0_make 20 3 23 (.if_icmp .ge 86) := ⟨by decide +kernel, rfl⟩
theorem dX0_make_23 : Dc cX0_make 23 2 25 (.bipush 10) := ⟨by decide +kernel, rfl⟩
theorem dX0_make_25 : Dc cX0_make 25 1 26 (.aload_n 2) := ⟨by decide +kernel, rfl⟩
theorem dX0_make_26 : Dc cX0_make 26 1 27 (.iload_n 3) := ⟨by decide +kernel, rfl⟩
theorem dX0_make_27 : Dc cX0_make 27 1 28 (.iaload) := ⟨by decide +kernel, rfl⟩
theorem dX0_make_28 : Dc cX0_make 28 1 29 (.imul) := ⟨by decide +kernel, rfl⟩
theorem dX0_make_29 : Dc cX0_make 29 1 30 (.aload_n 1) := ⟨by decide +kernel, rfl⟩
theorem dX0_make_30 : Dc cX0_make 30 3 33 (.getfield 34) := ⟨by decide +kernel, rfl⟩
theorem dX0_make_33 : Dc cX0_make 33 1 34 (.iload_n 3) := ⟨by decide +kernel, rfl⟩
theorem dX0_make_34 : Dc cX0_make 34 1 35 (.iaload) := ⟨by decide +kernel, rfl⟩
theorem dX0_make_35 : Dc cX0_make 35 1 36 (.isub) := ⟨by decide +kernel, rfl⟩
theorem dX0_make_36 : Dc cX0_make 36 2 38 (.istore 4) := ⟨by decide +kernel, rfl⟩
theorem dX0_make_38 : Dc cX0_make 38 1 39 (.aload_n 0) := ⟨by decide +kernel, rfl⟩
theorem dX0_make_39 : Dc cX0_make 39 3 42 (.getfield 9) := ⟨by decide +kernel, rfl⟩
theorem dX0_make_42 : Dc cX0_make 42 1 43 (.iload_n 3) := ⟨by decide +kernel, rfl⟩
theorem dX0_make_43 : Dc cX0_make 43 2 45 (.iload 4) := ⟨by decide +kernel, rfl⟩
theorem dX0_make_45 : Dc cX0_make 45 1 46 (.aload_n 1) := ⟨by decide +kernel, rfl⟩
theorem dX0_make_46 : Dc cX0_make 46 3 49 (.getfield 37) := ⟨by decide +kernel, rfl⟩
theorem dX0_make_49 : Dc cX0_make 49 3 52 (.invokestatic 40) := ⟨by decide +kernel, rfl⟩
theorem dX0_make_52 : Dc cX0_make 52 1 53 (.iastore) := ⟨by decide +kernel, rfl⟩
theorem dX0_make_53 : Dc cX0_make 53 1 54 (.aload_n 0) := ⟨by decide +kernel, rfl⟩
theorem dX0_make_54 : Dc cX0_make 54 3 57 (.getfield 15) := ⟨by decide +kernel, rfl⟩
theorem dX0_make_57 : Dc cX0_make 57 1 58 (.iload_n 3) := ⟨by decide +kernel, rfl⟩
theorem dX0_make_58 : Dc cX0_make 58 2 60 (.iload 4) := ⟨by decide +kernel, rfl⟩
theorem dX0_make_60 : Dc cX0_make 60 2 62 (.bipush 10) := ⟨by decide +kernel, rfl⟩
theorem dX0_make_62 : Dc cX0_make 62 1 63 (.iadd) := ⟨by decide +kernel, rfl⟩
theorem dX0_make_63 : Dc cX0_make 63 1 64 (.iconst 1) := ⟨by decide +kernel, rfl⟩
theorem dX0_make_64 : Dc cX0_make 64 1 65 (.isub) := ⟨by decide +kernel, rfl⟩
theorem dX0_make_65 : Dc cX0_make 65 1 66 (.aload_n 1) := ⟨by decide +kernel, rfl⟩
theorem dX0_make_66 : Dc cX0_make 66 3 69 (.getfield 37) := ⟨by decide +kernel, rfl⟩
theorem dX0_make_69 : Dc cX0_make 69 3 72 (.invokestatic 44) := ⟨by decide +kernel, rfl⟩
theorem dX0_make_72 : Dc cX0_make 72 1 73 (.iastore) := ⟨by decide +kernel, rfl⟩
theorem dX0_make_73 : Dc cX0_make 73 1 74 (.aload_n 0) := ⟨by decide +kernel, rfl⟩
theorem dX0_make_74 : Dc cX0_make 74 3 77 (.getfield 9) := ⟨by decide +kernel, rfl⟩
theorem dX0_make_77 : Dc cX0_make 77 1 78 (.iload_n 3) := ⟨by decide +kernel, rfl⟩
theorem dX0_make_78 : Dc cX0_make 78 1 79 (.iaload) := ⟨by decide +kernel, rfl⟩
theorem dX0_make_79 : Dc cX0_make 79 1 80 (.aload_n 0) := ⟨by decide +kernel, rfl⟩
theorem dX0_make_80 : Dc cX0_make 80 3 83 (.getfield 15) := ⟨by decide +kernel, rfl⟩
theorem dX0_make_83 : Dc cX0_make 83 1 84 (.iload_n 3) := ⟨by decide +kernel, rfl⟩
theorem dX0_make_84 : Dc cX0_make 84 1 85 (.iaload) := ⟨by decide +kernel, rfl⟩
theorem dX0_make_85 : Dc cX0_make 85 3 88 (.if_icmp .le 15) := ⟨by decide +kernel, rfl⟩
theorem dX0_make_88 : Dc cX0_make 88 1 89 (.aload_n 0) := ⟨by decide +kernel, rfl⟩
theorem dX0_make_89 : Dc cX0_make 89 1 90 (.dup) := ⟨by decide +kernel, rfl⟩
theorem dX0_make_90 : Dc cX0_make 90 3 93 (.getfield 28) := ⟨by decide +kernel, rfl⟩
theorem dX0_make_93 : Dc cX0_make 93 1 94 (.iconst 1) := ⟨by decide +kernel, rfl⟩
theorem dX0_make_94 : Dc cX0_make 94 1 95 (.iload_n 3) := ⟨by decide +kernel, rfl⟩
theorem dX0_make_95 : Dc cX0_make 95 1 96 (.ishl) := ⟨by decide +kernel, rfl⟩
theorem dX0_make_96 : Dc cX0_make 96 1 97 (.ior) := ⟨by decide +kernel, rfl⟩
theorem dX0_make_97 : Dc cX0_make 97 3 100 (.putfield 28) := ⟨by decide +kernel, rfl⟩
theorem dX0_make_100 : Dc cX0_make 100 3 103 (.iinc 3 1) := ⟨by decide +kernel, rfl⟩
theorem dX0_make_103 : Dc cX0_make 103 3 106 (.goto (-88)) := ⟨by decide +kernel, rfl⟩
theorem dX0_make_106 : Dc cX0_make 106 1 107 (.aload_n 0) := ⟨by decide +kernel, rfl⟩
theorem dX0_make_107 : Dc cX0_make 107 1 108 (.iconst 0) := ⟨by decide +kernel, rfl⟩
theorem dX0_make_108 : Dc cX0_make 108 3 111 (.putfield 25) := ⟨by decide +kernel, rfl⟩
theorem dX0_make_111 : Dc cX0_make 111 1 112 (.aload_n 0) := ⟨by decide +kernel, rfl⟩
theorem dX0_make_112 : Dc cX0_make 112 3 115 (.getfield 28) := ⟨by decide +kernel, rfl⟩
theorem dX0_make_115 : Dc cX0_make 115 3 118 (.ifCond .ne 7) := ⟨by decide +kernel, rfl⟩
theorem dX0_make_118 : Dc cX0_make 118 1 119 (.aload_n 0) := ⟨by decide +kernel, rfl⟩
theorem dX0_make_119 : Dc cX0_make 119 3 122 (.invokevirtual 47) := ⟨by decide +kernel, rfl⟩
theorem dX0_make_122 : Dc cX0_make 122 1 123 (.return_) := ⟨by decide +kernel, rfl⟩
theorem dX0_fewestMinutes_0 : Dc cX0_fewestMinutes 0 1 1 (.iload_n 0) := ⟨by decide +kernel, rfl⟩
theorem dX0_fewestMinutes_1 : Dc cX0_fewestMinutes 1 3 4 (.ifCond .le 8) := ⟨by decide +kernel, rfl⟩
theorem dX0_fewestMinutes_4 : Dc cX0_fewestMinutes 4 1 5 (.iload_n 1) := ⟨by decide +kernel, rfl⟩
theorem dX0_fewestMinutes_5 : Dc cX0_fewestMinutes 5 1 6 (.iconst 1) := ⟨by decide +kernel, rfl⟩
theorem dX0_fewestMinutes_6 : Dc cX0_fewestMinutes 6 3 9 (.if_icmp .ge 5) := ⟨by decide +kernel, rfl⟩
theorem dX0_fewestMinutes_9 : Dc cX0_fewestMinutes 9 1 10 (.iconst 0) := ⟨by decide +kernel, rfl⟩
theorem dX0_fewestMinutes_10 : Dc cX0_fewestMinutes 10 1 11 (.ireturn) := ⟨by decide +kernel, rfl⟩
theorem dX0_fewestMinutes_11 : Dc cX0_fewestMinutes 11 1 12 (.iload_n 0) := ⟨by decide +kernel, rfl⟩
theorem dX0_fewestMinutes_12 : Dc cX0_fewestMinutes 12 1 13 (.iload_n 1) := ⟨by decide +kernel, rfl⟩
theorem dX0_fewestMinutes_13 : Dc cX0_fewestMinutes 13 1 14 (.iadd) := ⟨by decide +kernel, rfl⟩
theorem dX0_fewestMinutes_14 : Dc cX0_fewestMinutes 14 1 15 (.iconst 1) := ⟨by decide +kernel, rfl⟩
theorem dX0_fewestMinutes_15 : Dc cX0_fewestMinutes 15 1 16 (.isub) := ⟨by decide +kernel, rfl⟩
theorem dX0_fewestMinutes_16 : Dc cX0_fewestMinutes 16 1 17 (.iload_n 1) := ⟨by decide +kernel, rfl⟩
theorem dX0_fewestMinutes_17 : Dc cX0_fewestMinutes 17 1 18 (.idiv) := ⟨by decide +kernel, rfl⟩
theorem dX0_fewestMinutes_18 : Dc cX0_fewestMinutes 18 1 19 (.ireturn) := ⟨by decide +kernel, rfl⟩
theorem dX0_mostMinutes_0 : Dc cX0_mostMinutes 0 1 1 (.iload_n 0) := ⟨by decide +kernel, rfl⟩
theorem dX0_mostMinutes_1 : Dc cX0_mostMinutes 1 3 4 (.ifCond .lt 8) := ⟨by decide +kernel, rfl⟩
theorem dX0_mostMinutes_4 : Dc cX0_mostMinutes 4 1 5 (.iload_n 1) := ⟨by decide +kernel, rfl⟩
theorem dX0_mostMinutes_5 : Dc cX0_mostMinutes 5 1 6 (.iconst 1) := ⟨by decide +kernel, rfl⟩
theorem dX0_mostMinutes_6 : Dc cX0_mostMinutes 6 3 9 (.if_icmp .ge 5) := ⟨by decide +kernel, rfl⟩
theorem dX0_mostMinutes_9 : Dc cX0_mostMinutes 9 1 10 (.iconst (-1)) := ⟨by decide +kernel, rfl⟩
theorem dX0_mostMinutes_10 : Dc cX0_mostMinutes 10 1 11 (.ireturn) := ⟨by decide +kernel, rfl⟩
theorem dX0_mostMinutes_11 : Dc cX0_mostMinutes 11 2 13 (.bipush 99) := ⟨by decide +kernel, rfl⟩
theorem dX0_mostMinutes_13 : Dc cX0_mostMinutes 13 1 14 (.iload_n 0) := ⟨by decide +kernel, rfl⟩
theorem dX0_mostMinutes_14 : Dc cX0_mostMinutes 14 1 15 (.iload_n 1) := ⟨by decide +kernel, rfl⟩
theorem dX0_mostMinutes_15 : Dc cX0_mostMinutes 15 1 16 (.idiv) := ⟨by decide +kernel, rfl⟩
theorem dX0_mostMinutes_16 : Dc cX0_mostMinutes 16 3 19 (.invokestatic 50) := ⟨by decide +kernel, rfl⟩
theorem dX0_mostMinutes_19 : Dc cX0_mostMinutes 19 1 20 (.ireturn) := ⟨by decide +kernel, rfl⟩
theorem dX0_chooseTotals_0 : Dc cX0_chooseTotals 0 1 1 (.iconst 0) := ⟨by decide +kernel, rfl⟩
theorem dX0_chooseTotals_1 : Dc cX0_chooseTotals 1 1 2 (.istore_n 1) := ⟨by decide +kernel, rfl⟩
theorem dX0_chooseTotals_2 : Dc cX0_chooseTotals 2 1 3 (.iconst 0) := ⟨by decide +kernel, rfl⟩
theorem dX0_chooseTotals_3 : Dc cX0_chooseTotals 3 1 4 (.istore_n 2) := ⟨by decide +kernel, rfl⟩
theorem dX0_chooseTotals_4 : Dc cX0_chooseTotals 4 1 5 (.iload_n 2) := ⟨by decide +kernel, rfl⟩
theorem dX0_chooseTotals_5 : Dc cX0_chooseTotals 5 1 6 (.aload_n 0) := ⟨by decide +kernel, rfl⟩
theorem dX0_chooseTotals_6 : Dc cX0_chooseTotals 6 3 9 (.getfield 21) := ⟨by decide +kernel, rfl⟩
theorem dX0_chooseTotals_9 : Dc cX0_chooseTotals 9 3 12 (.if_icmp .ge 43) := ⟨by decide +kernel, rfl⟩
theorem dX0_chooseTotals_12 : Dc cX0_chooseTotals 12 1 13 (.aload_n 0) := ⟨by decide +kernel, rfl⟩
theorem dX0_chooseTotals_13 : Dc cX0_chooseTotals 13 1 14 (.iload_n 1) := ⟨by decide +kernel, rfl⟩
theorem dX0_chooseTotals_14 : Dc cX0_chooseTotals 14 3 17 (.invokevirtual 55) := ⟨by decide +kernel, rfl⟩
theorem dX0_chooseTotals_17 : Dc cX0_chooseTotals 17 1 18 (.istore_n 3) := ⟨by decide +kernel, rfl⟩
theorem dX0_chooseTotals_18 : Dc cX0_chooseTotals 18 1 19 (.iload_n 3) := ⟨by decide +kernel, rfl⟩
theorem dX0_chooseTotals_19 : Dc cX0_chooseTotals 19 1 20 (.iconst (-1)) := ⟨by decide +kernel, rfl⟩
theorem dX0_chooseTotals_20 : Dc cX0_chooseTotals 20 3 23 (.if_icmp .ne 4) := ⟨by decide +kernel, rfl⟩
theorem dX0_chooseTotals_23 : Dc cX0_chooseTotals 23 1 24 (.return_) := ⟨by decide +kernel, rfl⟩
theorem dX0_chooseTotals_24 : Dc cX0_chooseTotals 24 1 25 (.aload_n 0) := ⟨by decide +kernel, rfl⟩
theorem dX0_chooseTotals_25 : Dc cX0_chooseTotals 25 3 28 (.getfield 18) := ⟨by decide +kernel, rfl⟩
theorem dX0_chooseTotals_28 : Dc cX0_chooseTotals 28 1 29 (.aload_n 0) := ⟨by decide +kernel, rfl⟩
theorem dX0_chooseTotals_29 : Dc cX0_chooseTotals 29 3 32 (.getfield 25) := ⟨by decide +kernel, rfl⟩
theorem dX0_chooseTotals_32 : Dc cX0_chooseTotals 32 1 33 (.iload_n 3) := ⟨by decide +kernel, rfl⟩
theorem dX0_chooseTotals_33 : Dc cX0_chooseTotals 33 1 34 (.iastore) := ⟨by decide +kernel, rfl⟩
theorem dX0_chooseTotals_34 : Dc cX0_chooseTotals 34 1 35 (.aload_n 0) := ⟨by decide +kernel, rfl⟩
theorem dX0_chooseTotals_35 : Dc cX0_chooseTotals 35 1 36 (.dup) := ⟨by decide +kernel, rfl⟩
theorem dX0_chooseTotals_36 : Dc cX0_chooseTotals 36 3 39 (.getfield 25) := ⟨by decide +kernel, rfl⟩
theorem dX0_chooseTotals_39 : Dc cX0_chooseTotals 39 1 40 (.iconst 1) := ⟨by decide +kernel, rfl⟩
theorem dX0_chooseTotals_40 : Dc cX0_chooseTotals 40 1 41 (.iadd) := ⟨by decide +kernel, rfl⟩
theorem dX0_chooseTotals_41 : Dc cX0_chooseTotals 41 3 44 (.putfield 25) := ⟨by decide +kernel, rfl⟩
theorem dX0_chooseTotals_44 : Dc cX0_chooseTotals 44 1 45 (.iload_n 3) := ⟨by decide +kernel, rfl⟩
theorem dX0_chooseTotals_45 : Dc cX0_chooseTotals 45 1 46 (.istore_n 1) := ⟨by decide +kernel, rfl⟩
theorem dX0_chooseTotals_46 : Dc cX0_chooseTotals 46 3 49 (.iinc 2 1) := ⟨by decide +kernel, rfl⟩
theorem dX0_chooseTotals_49 : Dc cX0_chooseTotals 49 3 52 (.goto (-45)) := ⟨by decide +kernel, rfl⟩
theorem dX0_chooseTotals_52 : Dc cX0_chooseTotals 52 1 53 (.return_) := ⟨by decide +kernel, rfl⟩
theorem dX0_nextTotal_0 : Dc cX0_nextTotal 0 1 1 (.iconst (-1)) := ⟨by decide +kernel, rfl⟩
theorem dX0_nextTotal_1 : Dc cX0_nextTotal 1 1 2 (.istore_n 2) := ⟨by decide +kernel, rfl⟩
theorem dX0_nextTotal_2 : Dc cX0_nextTotal 2 1 3 (.iconst 0) := ⟨by decide +kernel, rfl⟩
theorem dX0_nextTotal_3 : Dc cX0_nextTotal 3 1 4 (.istore_n 3) := ⟨by decide +kernel, rfl⟩
theorem dX0_nextTotal_4 : Dc cX0_nextTotal 4 1 5 (.iload_n 3) := ⟨by decide +kernel, rfl⟩
theorem dX0_nextTotal_5 : Dc cX0_nextTotal 5 1 6 (.aload_n 0) := ⟨by decide +kernel, rfl⟩
theorem dX0_nextTotal_6 : Dc cX0_nextTotal 6 3 9 (.getfield 21) := ⟨by decide +kernel, rfl⟩
theorem dX0_nextTotal_9 : Dc cX0_nextTotal 9 3 12 (.if_icmp .ge 41) := ⟨by decide +kernel, rfl⟩
theorem dX0_nextTotal_12 : Dc cX0_nextTotal 12 1 13 (.aload_n 0) := ⟨by decide +kernel, rfl⟩
theorem dX0_nextTotal_13 : Dc cX0_nextTotal 13 3 16 (.getfield 9) := ⟨by decide +kernel, rfl⟩
theorem dX0_nextTotal_16 : Dc cX0_nextTotal 16 1 17 (.iload_n 3) := ⟨by decide +kernel, rfl⟩
theorem dX0_nextTotal_17 : Dc cX0_nextTotal 17 1 18 (.iaload) := ⟨by decide +kernel, rfl⟩
theorem dX0_nextTotal_18 : Dc cX0_nextTotal 18 1 19 (.iload_n 1) := ⟨by decide +kernel, rfl⟩
theorem dX0_nextTotal_19 : Dc cX0_nextTotal 19 3 22 (.if_icmp .le 25) := ⟨by decide +kernel, rfl⟩
theorem dX0_nextTotal_22 : Dc cX0_nextTotal 22 1 23 (.iload_n 2) := ⟨by decide +kernel, rfl⟩
theorem dX0_nextTotal_23 : Dc cX0_nextTotal 23 1 24 (.iconst (-1)) := ⟨by decide +kernel, rfl⟩
theorem dX0_nextTotal_24 : Dc cX0_nextTotal 24 3 27 (.if_icmp .eq 13) := ⟨by decide +kernel, rfl⟩
theorem dX0_nextTotal_27 : Dc cX0_nextTotal 27 1 28 (.aload_n 0) := ⟨by decide +kernel, rfl⟩
theorem dX0_nextTotal_28 : Dc cX0_nextTotal 28 3 31 (.getfield 15) := ⟨by decide +kernel, rfl⟩
theorem dX0_nextTotal_31 : Dc cX0_nextTotal 31 1 32 (.iload_n 3) := ⟨by decide +kernel, rfl⟩
theorem dX0_nextTotal_32 : Dc cX0_nextTotal 32 1 33 (.iaload) := ⟨by decide +kernel, rfl⟩
theorem dX0_nextTotal_33 : Dc cX0_nextTotal 33 1 34 (.iload_n 2) := ⟨by decide +kernel, rfl⟩
theorem dX0_nextTotal_34 : Dc cX0_nextTotal 34 3 37 (.if_icmp .ge 10) := ⟨by decide +kernel, rfl⟩
theorem dX0_nextTotal_37 : Dc cX0_nextTotal 37 1 38 (.aload_n 0) := ⟨by decide +kernel, rfl⟩
theorem dX0_nextTotal_38 : Dc cX0_nextTotal 38 3 41 (.getfield 15) := ⟨by decide +kernel, rfl⟩
theorem dX0_nextTotal_41 : Dc cX0_nextTotal 41 1 42 (.iload_n 3) := ⟨by decide +kernel, rfl⟩
theorem dX0_nextTotal_42 : Dc cX0_nextTotal 42 1 43 (.iaload) := ⟨by decide +kernel, rfl⟩
theorem dX0_nextTotal_43 : Dc cX0_nextTotal 43 1 44 (.istore_n 2) := ⟨by decide +kernel, rfl⟩
theorem dX0_nextTotal_44 : Dc cX0_nextTotal 44 3 47 (.iinc 3 1) := ⟨by decide +kernel, rfl⟩
theorem dX0_nextTotal_47 : Dc cX0_nextTotal 47 3 50 (.goto (-43)) := ⟨by decide +kernel, rfl⟩
theorem dX0_nextTotal_50 : Dc cX0_nextTotal 50 1 51 (.iload_n 2) := ⟨by decide +kernel, rfl⟩
theorem dX0_nextTotal_51 : Dc cX0_nextTotal 51 1 52 (.ireturn) := ⟨by decide +kernel, rfl⟩
theorem dX0_totalBefore_0 : Dc cX0_totalBefore 0 1 1 (.iload_n 1) := ⟨by decide +kernel, rfl⟩
theorem dX0_totalBefore_1 : Dc cX0_totalBefore 1 3 4 (.ifCond .le 14) := ⟨by decide +kernel, rfl⟩
theorem dX0_totalBefore_4 : Dc cX0_totalBefore 4 1 5 (.aload_n 0) := ⟨by decide +kernel, rfl⟩
theorem dX0_totalBefore_5 : Dc cX0_totalBefore 5 3 8 (.getfield 18) := ⟨by decide +kernel, rfl⟩
theorem dX0_totalBefore_8 : Dc cX0_totalBefore 8 1 9 (.iload_n 1) := ⟨by decide +kernel, rfl⟩
theorem dX0_totalBefore_9 : Dc cX0_totalBefore 9 1 10 (.iconst 1) := ⟨by decide +kernel, rfl⟩
theorem dX0_totalBefore_10 : Dc cX0_totalBefore 10 1 11 (.isub) := ⟨by decide +kernel, rfl⟩
theorem dX0_totalBefore_11 : Dc cX0_totalBefore 11 1 12 (.iaload) := ⟨by decide +kernel, rfl⟩
theorem dX0_totalBefore_12 : Dc cX0_totalBefore 12 3 15 (.goto 4) := ⟨by decide +kernel, rfl⟩
theorem dX0_totalBefore_15 : Dc cX0_totalBefore 15 1 16 (.iconst 0) := ⟨by decide +kernel, rfl⟩
theorem dX0_totalBefore_16 : Dc cX0_totalBefore 16 1 17 (.ireturn) := ⟨by decide +kernel, rfl⟩
theorem dX0_minutesAt_0 : Dc cX0_minutesAt 0 1 1 (.aload_n 0) := ⟨by decide +kernel, rfl⟩
theorem dX0_minutesAt_1 : Dc cX0_minutesAt 1 3 4 (.getfield 18) := ⟨by decide +kernel, rfl⟩
theorem dX0_minutesAt_4 : Dc cX0_minutesAt 4 1 5 (.iload_n 1) := ⟨by decide +kernel, rfl⟩
theorem dX0_minutesAt_5 : Dc cX0_minutesAt 5 1 6 (.iaload) := ⟨by decide +kernel, rfl⟩
theorem dX0_minutesAt_6 : Dc cX0_minutesAt 6 1 7 (.aload_n 0) := ⟨by decide +kernel, rfl⟩
theorem dX0_minutesAt_7 : Dc cX0_minutesAt 7 1 8 (.iload_n 1) := ⟨by decide +kernel, rfl⟩
theorem dX0_minutesAt_8 : Dc cX0_minutesAt 8 3 11 (.invokevirtual 59) := ⟨by decide +kernel, rfl⟩
theorem dX0_minutesAt_11 : Dc cX0_minutesAt 11 1 12 (.isub) := ⟨by decide +kernel, rfl⟩
theorem dX0_minutesAt_12 : Dc cX0_minutesAt 12 1 13 (.ireturn) := ⟨by decide +kernel, rfl⟩
theorem dX0_finishedBefore_0 : Dc cX0_finishedBefore 0 1 1 (.aload_n 0) := ⟨by decide +kernel, rfl⟩
theorem dX0_finishedBefore_1 : Dc cX0_finishedBefore 1 1 2 (.iload_n 1) := ⟨by decide +kernel, rfl⟩
theorem dX0_finishedBefore_2 : Dc cX0_finishedBefore 2 3 5 (.invokevirtual 59) := ⟨by decide +kernel, rfl⟩
theorem dX0_finishedBefore_5 : Dc cX0_finishedBefore 5 1 6 (.istore_n 2) := ⟨by decide +kernel, rfl⟩
theorem dX0_finishedBefore_6 : Dc cX0_finishedBefore 6 1 7 (.iconst 0) := ⟨by decide +kernel, rfl⟩
theorem dX0_finishedBefore_7 : Dc cX0_finishedBefore 7 1 8 (.istore_n 3) := ⟨by decide +kernel, rfl⟩
theorem dX0_finishedBefore_8 : Dc cX0_finishedBefore 8 1 9 (.iconst 0) := ⟨by decide +kernel, rfl⟩
theorem dX0_finishedBefore_9 : Dc cX0_finishedBefore 9 2 11 (.istore 4) := ⟨by decide +kernel, rfl⟩
theorem dX0_finishedBefore_11 : Dc cX0_finishedBefore 11 2 13 (.iload 4) := ⟨by decide +kernel, rfl⟩
theorem dX0_finishedBefore_13 : Dc cX0_finishedBefore 13 1 14 (.aload_n 0) := ⟨by decide +kernel, rfl⟩
theorem dX0_finishedBefore_14 : Dc cX0_finishedBefore 14 3 17 (.getfield 21) := ⟨by decide +kernel, rfl⟩
theorem dX0_finishedBefore_17 : Dc cX0_finishedBefore 17 3 20 (.if_icmp .ge 27) := ⟨by decide +kernel, rfl⟩
theorem dX0_finishedBefore_20 : Dc cX0_finishedBefore 20 1 21 (.aload_n 0) := ⟨by decide +kernel, rfl⟩
theorem dX0_finishedBefore_21 : Dc cX0_finishedBefore 21 3 24 (.getfield 9) := ⟨by decide +kernel, rfl⟩
theorem dX0_finishedBefore_24 : Dc cX0_finishedBefore 24 2 26 (.iload 4) := ⟨by decide +kernel, rfl⟩
theorem dX0_finishedBefore_26 : Dc cX0_finishedBefore 26 1 27 (.iaload) := ⟨by decide +kernel, rfl⟩
theorem dX0_finishedBefore_27 : Dc cX0_finishedBefore 27 1 28 (.iload_n 2) := ⟨by decide +kernel, rfl⟩
theorem dX0_finishedBefore_28 : Dc cX0_finishedBefore 28 3 31 (.if_icmp .gt 10) := ⟨by decide +kernel, rfl⟩
theorem dX0_finishedBefore_31 : Dc cX0_finishedBefore 31 1 32 (.iload_n 3) := ⟨by decide +kernel, rfl⟩
theorem dX0_finishedBefore_32 : Dc cX0_finishedBefore 32 1 33 (.iconst 1) := ⟨by decide +kernel, rfl⟩
theorem dX0_finishedBefore_33 : Dc cX0_finishedBefore 33 2 35 (.iload 4) := ⟨by decide +kernel, rfl⟩
theorem dX0_finishedBefore_35 : Dc cX0_finishedBefore 35 1 36 (.ishl) := ⟨by decide +kernel, rfl⟩
theorem dX0_finishedBefore_36 : Dc cX0_finishedBefore 36 1 37 (.ior) := ⟨by decide +kernel, rfl⟩
theorem dX0_finishedBefore_37 : Dc cX0_finishedBefore 37 1 38 (.istore_n 3) := ⟨by decide +kernel, rfl⟩
theorem dX0_finishedBefore_38 : Dc cX0_finishedBefore 38 3 41 (.iinc 4 1) := ⟨by decide +kernel, rfl⟩
theorem dX0_finishedBefore_41 : Dc cX0_finishedBefore 41 3 44 (.goto (-30)) := ⟨by decide +kernel, rfl⟩
theorem dX0_finishedBefore_44 : Dc cX0_finishedBefore 44 1 45 (.iload_n 3) := ⟨by decide +kernel, rfl⟩
theorem dX0_finishedBefore_45 : Dc cX0_finishedBefore 45 1 46 (.ireturn) := ⟨by decide +kernel, rfl⟩
theorem dX1_init_0 : Dc cX1_init 0 1 1 (.aload_n 0) := ⟨by decide +kernel, rfl⟩
theorem dX1_init_1 : Dc cX1_init 1 3 4 (.invokespecial 3) := ⟨by decide +kernel, rfl⟩
theorem dX1_init_4 : Dc cX1_init 4 1 5 (.aload_n 0) := ⟨by decide +kernel, rfl⟩
theorem dX1_init_5 : Dc cX1_init 5 2 7 (.bipush 10) := ⟨by decide +kernel, rfl⟩
theorem dX1_init_7 : Dc cX1_init 7 2 9 (.newarray .int) := ⟨by decide +kernel, rfl⟩
theorem dX1_init_9 : Dc cX1_init 9 3 12 (.putfield 9) := ⟨by decide +kernel, rfl⟩
theorem dX1_init_12 : Dc cX1_init 12 1 13 (.aload_n 0) := ⟨by decide +kernel, rfl⟩
theorem dX1_init_13 : Dc cX1_init 13 2 15 (.bipush 12) := ⟨by decide +kernel, rfl⟩
theorem dX1_init_15 : Dc cX1_init 15 2 17 (.newarray .int) := ⟨by decide +kernel, rfl⟩
theorem dX1_init_17 : Dc cX1_init 17 3 20 (.putfield 15) := ⟨by decide +kernel, rfl⟩
theorem dX1_init_20 : Dc cX1_init 20 1 21 (.aload_n 0) := ⟨by decide +kernel, rfl⟩
theorem dX1_init_21 : Dc cX1_init 21 2 23 (.bipush 120) := ⟨by decide +kernel, rfl⟩
theorem dX1_init_23 : Dc cX1_init 23 2 25 (.newarray .int) := ⟨by decide +kernel, rfl⟩
theorem dX1_init_25 : Dc cX1_init 25 3 28 (.putfield 18) := ⟨by decide +kernel, rfl⟩
theorem dX1_init_28 : Dc cX1_init 28 1 29 (.aload_n 0) := ⟨by decide +kernel, rfl⟩
theorem dX1_init_29 : Dc cX1_init 29 1 30 (.iconst 0) := ⟨by decide +kernel, rfl⟩
theorem dX1_init_30 : Dc cX1_init 30 3 33 (.putfield 21) := ⟨by decide +kernel, rfl⟩
theorem dX1_init_33 : Dc cX1_init 33 1 34 (.aload_n 0) := ⟨by decide +kernel, rfl⟩
theorem dX1_init_34 : Dc cX1_init 34 1 35 (.iconst 0) := ⟨by decide +kernel, rfl⟩
theorem dX1_init_35 : Dc cX1_init 35 3 38 (.putfield 25) := ⟨by decide +kernel, rfl⟩
theorem dX1_init_38 : Dc cX1_init 38 1 39 (.aload_n 0) := ⟨by decide +kernel, rfl⟩
theorem dX1_init_39 : Dc cX1_init 39 1 40 (.iconst 2) := ⟨by decide +kernel, rfl⟩
theorem dX1_init_40 : Dc cX1_init 40 3 43 (.putfield 28) := ⟨by decide +kernel, rfl⟩
theorem dX1_init_43 : Dc cX1_init 43 1 44 (.aload_n 0) := ⟨by decide +kernel, rfl⟩
theorem dX1_init_44 : Dc cX1_init 44 1 45 (.iconst 0) := ⟨by decide +kernel, rfl⟩
theorem dX1_init_45 : Dc cX1_init 45 3 48 (.putfield 31) := ⟨by decide +kernel, rfl⟩
theorem dX1_init_48 : Dc cX1_init 48 1 49 (.aload_n 0) := ⟨by decide +kernel, rfl⟩
theorem dX1_init_49 : Dc cX1_init 49 1 50 (.iconst 1) := ⟨by decide +kernel, rfl⟩
theorem dX1_init_50 : Dc cX1_init 50 3 53 (.putfield 34) := ⟨by decide +kernel, rfl⟩
theorem dX1_init_53 : Dc cX1_init 53 1 54 (.aload_n 0) := ⟨by decide +kernel, rfl⟩
theorem dX1_init_54 : Dc cX1_init 54 1 55 (.iconst 0) := ⟨by decide +kernel, rfl⟩
theorem dX1_init_55 : Dc cX1_init 55 3 58 (.putfield 37) := ⟨by decide +kernel, rfl⟩
theorem dX1_init_58 : Dc cX1_init 58 1 59 (.return_) := ⟨by decide +kernel, rfl⟩
theorem dX1_copyFrom_0 : Dc cX1_copyFrom 0 1 1 (.aload_n 1) := ⟨by decide +kernel, rfl⟩
theorem dX1_copyFrom_1 : Dc cX1_copyFrom 1 3 4 (.getfield 9) := ⟨by decide +kernel, rfl⟩
theorem dX1_copyFrom_4 : Dc cX1_copyFrom 4 1 5 (.iconst 0) := ⟨by decide +kernel, rfl⟩
theorem dX1_copyFrom_5 : Dc cX1_copyFrom 5 1 6 (.aload_n 0) := ⟨by decide +kernel, rfl⟩
theorem dX1_copyFrom_6 : Dc cX1_copyFrom 6 3 9 (.getfield 9) := ⟨by decide +kernel, rfl⟩
theorem dX1_copyFrom_9 : Dc cX1_copyFrom 9 1 10 (.iconst 0) := ⟨by decide +kernel, rfl⟩
theorem dX1_copyFrom_10 : Dc cX1_copyFrom 10 2 12 (.bipush 10) := ⟨by decide +kernel, rfl⟩
theorem dX1_copyFrom_12 : Dc cX1_copyFrom 12 3 15 (.invokestatic 41) := ⟨by decide +kernel, rfl⟩
theorem dX1_copyFrom_15 : Dc cX1_copyFrom 15 1 16 (.aload_n 1) := ⟨by decide +kernel, rfl⟩
theorem dX1_copyFrom_16 : Dc cX1_copyFrom 16 3 19 (.getfield 15) := ⟨by decide +kernel, rfl⟩
theorem dX1_copyFrom_19 : Dc cX1_copyFrom 19 1 20 (.iconst 0) := ⟨by decide +kernel, rfl⟩
theorem dX1_copyFrom_20 : Dc cX1_copyFrom 20 1 21 (.aload_n 0) := ⟨by decide +kernel, rfl⟩
theorem dX1_copyFrom_21 : Dc cX1_copyFrom 21 3 24 (.getfield 15) := ⟨by decide +kernel, rfl⟩
theorem dX1_copyFrom_24 : Dc cX1_copyFrom 24 1 25 (.iconst 0) := ⟨by decide +kernel, rfl⟩
theorem dX1_copyFrom_25 : Dc cX1_copyFrom 25 2 27 (.bipush 12) := ⟨by decide +kernel, rfl⟩
theorem dX1_copyFrom_27 : Dc cX1_copyFrom 27 3 30 (.invokestatic 41) := ⟨by decide +kernel, rfl⟩
theorem dX1_copyFrom_30 : Dc cX1_copyFrom 30 1 31 (.aload_n 1) := ⟨by decide +kernel, rfl⟩
theorem dX1_copyFrom_31 : Dc cX1_copyFrom 31 3 34 (.getfield 18) := ⟨by decide +kernel, rfl⟩
theorem dX1_copyFrom_34 : Dc cX1_copyFrom 34 1 35 (.iconst 0) := ⟨by decide +kernel, rfl⟩
theorem dX1_copyFrom_35 : Dc cX1_copyFrom 35 1 36 (.aload_n 0) := ⟨by decide +kernel, rfl⟩
theorem dX1_copyFrom_36 : Dc cX1_copyFrom 36 3 39 (.getfield 18) := ⟨by decide +kernel, rfl⟩
theorem dX1_copyFrom_39 : Dc cX1_copyFrom 39 1 40 (.iconst 0) := ⟨by decide +kernel, rfl⟩
theorem dX1_copyFrom_40 : Dc cX1_copyFrom 40 2 42 (.bipush 120) := ⟨by decide +kernel, rfl⟩
theorem dX1_copyFrom_42 : Dc cX1_copyFrom 42 3 45 (.invokestatic 41) := ⟨by decide +kernel, rfl⟩
theorem dX1_copyFrom_45 : Dc cX1_copyFrom 45 1 46 (.aload_n 0) := ⟨by decide +kernel, rfl⟩
theorem dX1_copyFrom_46 : Dc cX1_copyFrom 46 1 47 (.aload_n 1) := ⟨by decide +kernel, rfl⟩
theorem dX1_copyFrom_47 : Dc cX1_copyFrom 47 3 50 (.getfield 21) := ⟨by decide +kernel, rfl⟩
theorem dX1_copyFrom_50 : Dc cX1_copyFrom 50 3 53 (.putfield 21) := ⟨by decide +kernel, rfl⟩
theorem dX1_copyFrom_53 : Dc cX1_copyFrom 53 1 54 (.aload_n 0) := ⟨by decide +kernel, rfl⟩
theorem dX1_copyFrom_54 : Dc cX1_copyFrom 54 1 55 (.aload_n 1) := ⟨by decide +kernel, rfl⟩
theorem dX1_copyFrom_55 : Dc cX1_copyFrom 55 3 58 (.getfield 25) := ⟨by decide +kernel, rfl⟩
theorem dX1_copyFrom_58 : Dc cX1_copyFrom 58 3 61 (.putfield 25) := ⟨by decide +kernel, rfl⟩
theorem dX1_copyFrom_61 : Dc cX1_copyFrom 61 1 62 (.aload_n 0) := ⟨by decide +kernel, rfl⟩
theorem dX1_copyFrom_62 : Dc cX1_copyFrom 62 1 63 (.aload_n 1) := ⟨by decide +kernel, rfl⟩
theorem dX1_copyFrom_63 : Dc cX1_copyFrom 63 3 66 (.getfield 28) := ⟨by decide +kernel, rfl⟩
theorem dX1_copyFrom_66 : Dc cX1_copyFrom 66 3 69 (.putfield 28) := ⟨by decide +kernel, rfl⟩
theorem dX1_copyFrom_69 : Dc cX1_copyFrom 69 1 70 (.aload_n 0) := ⟨by decide +kernel, rfl⟩
theorem dX1_copyFrom_70 : Dc cX1_copyFrom 70 1 71 (.aload_n 1) := ⟨by decide +kernel, rfl⟩
theorem dX1_copyFrom_71 : Dc cX1_copyFrom 71 3 74 (.getfield 31) := ⟨by decide +kernel, rfl⟩
theorem dX1_copyFrom_74 : Dc cX1_copyFrom 74 3 77 (.putfield 31) := ⟨by decide +kernel, rfl⟩
theorem dX1_copyFrom_77 : Dc cX1_copyFrom 77 1 78 (.aload_n 0) := ⟨by decide +kernel, rfl⟩
theorem dX1_copyFrom_78 : Dc cX1_copyFrom 78 1 79 (.aload_n 1) := ⟨by decide +kernel, rfl⟩
theorem dX1_copyFrom_79 : Dc cX1_copyFrom 79 3 82 (.getfield 34) := ⟨by decide +kernel, rfl⟩
theorem dX1_copyFrom_82 : Dc cX1_copyFrom 82 3 85 (.putfield 34) := ⟨by decide +kernel, rfl⟩
theorem dX1_copyFrom_85 : Dc cX1_copyFrom 85 1 86 (.aload_n 0) := ⟨by decide +kernel, rfl⟩
theorem dX1_copyFrom_86 : Dc cX1_copyFrom 86 1 87 (.aload_n 1) := ⟨by decide +kernel, rfl⟩
theorem dX1_copyFrom_87 : Dc cX1_copyFrom 87 3 90 (.getfield 37) := ⟨by decide +kernel, rfl⟩
theorem dX1_copyFrom_90 : Dc cX1_copyFrom 90 3 93 (.putfield 37) := ⟨by decide +kernel, rfl⟩
theorem dX1_copyFrom_93 : Dc cX1_copyFrom 93 1 94 (.return_) := ⟨by decide +kernel, rfl⟩
theorem dX1_addLine_0 : Dc cX1_addLine 0 1 1 (.aload_n 0) := ⟨by decide +kernel, rfl⟩
theorem dX1_addLine_1 : Dc cX1_addLine 1 3 4 (.getfield 21) := ⟨by decide +kernel, rfl⟩
theorem dX1_addLine_4 : Dc cX1_addLine 4 1 5 (.istore_n 1) := ⟨by decide +kernel, rfl⟩
theorem dX1_addLine_5 : Dc cX1_addLine 5 1 6 (.aload_n 0) := ⟨by decide +kernel, rfl⟩
theorem dX1_addLine_6 : Dc cX1_addLine 6 3 9 (.getfield 9) := ⟨by decide +kernel, rfl⟩
theorem dX1_addLine_9 : Dc cX1_addLine 9 1 10 (.iload_n 1) := ⟨by decide +kernel, rfl⟩
theorem dX1_addLine_10 : Dc cX1_addLine 10 1 11 (.iconst 0) := ⟨by decide +kernel, rfl⟩
theorem dX1_addLine_11 : Dc cX1_addLine 11 1 12 (.iastore) := ⟨by decide +kernel, rfl⟩
theorem dX1_addLine_12 : Dc cX1_addLine 12 1 13 (.aload_n 0) := ⟨by decide +kernel, rfl⟩
theorem dX1_addLine_13 : Dc cX1_addLine 13 1 14 (.dup) := ⟨by decide +kernel, rfl⟩
theorem dX1_addLine_14 : Dc cX1_addLine 14 3 17 (.getfield 21) := ⟨by decide +kernel, rfl⟩
theorem dX1_addLine_17 : Dc cX1_addLine 17 1 18 (.iconst 1) := ⟨by decide +kernel, rfl⟩
theorem dX1_addLine_18 : Dc cX1_addLine 18 1 19 (.iadd) := ⟨by decide +kernel, rfl⟩
theorem dX1_addLine_19 : Dc cX1_addLine 19 3 22 (.putfield 21) := ⟨by decide +kernel, rfl⟩
theorem dX1_addLine_22 : Dc cX1_addLine 22 1 23 (.aload_n 0) := ⟨by decide +kernel, rfl⟩
theorem dX1_addLine_23 : Dc cX1_addLine 23 1 24 (.iconst 1) := ⟨by decide +kernel, rfl⟩
theorem dX1_addLine_24 : Dc cX1_addLine 24 3 27 (.putfield 37) := ⟨by decide +kernel, rfl⟩
theorem dX1_addLine_27 : Dc cX1_addLine 27 1 28 (.iload_n 1) := ⟨by decide +kernel, rfl⟩
theorem dX1_addLine_28 : Dc cX1_addLine 28 1 29 (.ireturn) := ⟨by decide +kernel, rfl⟩
theorem dX1_etch_0 : Dc cX1_etch 0 1 1 (.iload_n 1) := ⟨by decide +kernel, rfl⟩
theorem dX1_etch_1 : Dc cX1_etch 1 3 4 (.ifCond .le 8) := ⟨by decide +kernel, rfl⟩
theorem dX1_etch_4 : Dc cX1_etch 4 1 5 (.aload_n 0) := ⟨by decide +kernel, rfl⟩
theorem dX1_etch_5 : Dc cX1_etch 5 1 6 (.iconst 1) := ⟨by decide +kernel, rfl⟩
theorem dX1_etch_6 : Dc cX1_etch 6 3 9 (.putfield 37) := ⟨by decide +kernel, rfl⟩
theorem dX1_etch_9 : Dc cX1_etch 9 1 10 (.iconst 0) := ⟨by decide +kernel, rfl⟩
theorem dX1_etch_10 : Dc cX1_etch 10 1 11 (.istore_n 2) := ⟨by decide +kernel, rfl⟩
theorem dX1_etch_11 : Dc cX1_etch 11 1 12 (.iconst 0) := ⟨by decide +kernel, rfl⟩
theorem dX1_etch_12 : Dc cX1_etch 12 1 13 (.istore_n 3) := ⟨by decide +kernel, rfl⟩
theorem dX1_etch_13 : Dc cX1_etch 13 1 14 (.iload_n 3) := ⟨by decide +kernel, rfl⟩
theorem dX1_etch_14 : Dc cX1_etch 14 1 15 (.aload_n 0) := ⟨by decide +kernel, rfl⟩
theorem dX1_etch_15 : Dc cX1_etch 15 3 18 (.getfield 21) := ⟨by decide +kernel, rfl⟩
theorem dX1_etch_18 : Dc cX1_etch 18 3 21 (.if_icmp .ge 62) := ⟨by decide +kernel, rfl⟩
theorem dX1_etch_21 : Dc cX1_etch 21 1 22 (.aload_n 0) := ⟨by decide +kernel, rfl⟩
theorem dX1_etch_22 : Dc cX1_etch 22 3 25 (.getfield 9) := ⟨by decide +kernel, rfl⟩
theorem dX1_etch_25 : Dc cX1_etch 25 1 26 (.iload_n 3) := ⟨by decide +kernel, rfl⟩
theorem dX1_etch_26 : Dc cX1_etch 26 1 27 (.iaload) := ⟨by decide +kernel, rfl⟩
theorem dX1_etch_27 : Dc cX1_etch 27 2 29 (.istore 4) := ⟨by decide +kernel, rfl⟩
theorem dX1_etch_29 : Dc cX1_etch 29 1 30 (.aload_n 0) := ⟨by decide +kernel, rfl⟩
theorem dX1_etch_30 : Dc cX1_etch 30 3 33 (.getfield 25) := ⟨by decide +kernel, rfl⟩
theorem dX1_etch_33 : Dc cX1_etch 33 1 34 (.iload_n 3) := ⟨by decide +kernel, rfl⟩
theorem dX1_etch_34 : Dc cX1_etch 34 3 37 (.invokestatic 47) := ⟨by decide +kernel, rfl⟩
theorem dX1_etch_37 : Dc cX1_etch 37 3 40 (.ifCond .ne 23) := ⟨by decide +kernel, rfl⟩
theorem dX1_etch_40 : Dc cX1_etch 40 1 41 (.aload_n 0) := ⟨by decide +kernel, rfl⟩
theorem dX1_etch_41 : Dc cX1_etch 41 3 44 (.getfield 9) := ⟨by decide +kernel, rfl⟩
theorem dX1_etch_44 : Dc cX1_etch 44 1 45 (.iload_n 3) := ⟨by decide +kernel, rfl⟩
theorem dX1_etch_45 : Dc cX1_etch 45 2 47 (.bipush 99) := ⟨by decide +kernel, rfl⟩
theorem dX1_etch_47 : Dc cX1_etch 47 2 49 (.iload 4) := ⟨by decide +kernel, rfl⟩
theorem dX1_etch_49 : Dc cX1_etch 49 1 50 (.aload_n 0) := ⟨by decide +kernel, rfl⟩
theorem dX1_etch_50 : Dc cX1_etch 50 3 53 (.getfield 28) := ⟨by decide +kernel, rfl⟩
theorem dX1_etch_53 : Dc cX1_etch 53 1 54 (.iload_n 1) := ⟨by decide +kernel, rfl⟩
theorem dX1_etch_54 : Dc cX1_etch 54 1 55 (.imul) := ⟨by decide +kernel, rfl⟩
theorem dX1_etch_55 : Dc cX1_etch 55 1 56 (.iadd) := ⟨by decide +kernel, rfl⟩
theorem dX1_etch_56 : Dc cX1_etch 56 3 59 (.invokestatic 51) := ⟨by decide +kernel, rfl⟩
theorem dX1_etch_59 : Dc cX1_etch 59 1 60 (.iastore) := ⟨by decide +kernel, rfl⟩
theorem dX1_etch_60 : Dc cX1_etch 60 1 61 (.aload_n 0) := ⟨by decide +kernel, rfl⟩
theorem dX1_etch_61 : Dc cX1_etch 61 3 64 (.getfield 9) := ⟨by decide +kernel, rfl⟩
theorem dX1_etch_64 : Dc cX1_etch 64 1 65 (.iload_n 3) := ⟨by decide +kernel, rfl⟩
theorem dX1_etch_65 : Dc cX1_etch 65 1 66 (.iaload) := ⟨by decide +kernel, rfl⟩
theorem dX1_etch_66 : Dc cX1_etch 66 2 68 (.iload 4) := ⟨by decide +kernel, rfl⟩
theorem dX1_etch_68 : Dc cX1_etch 68 3 71 (.if_icmp .le 6) := ⟨by decide +kernel, rfl⟩
theorem dX1_etch_71 : Dc cX1_etch 71 3 74 (.iinc 2 1) := ⟨by decide +kernel, rfl⟩
theorem dX1_etch_74 : Dc cX1_etch 74 3 77 (.iinc 3 1) := ⟨by decide +kernel, rfl⟩
theorem dX1_etch_77 : Dc cX1_etch 77 3 80 (.goto (-64)) := ⟨by decide +kernel, rfl⟩
theorem dX1_etch_80 : Dc cX1_etch 80 1 81 (.iload_n 2) := ⟨by decide +kernel, rfl⟩
theorem dX1_etch_81 : Dc cX1_etch 81 1 82 (.ireturn) := ⟨by decide +kernel, rfl⟩
theorem dX1_rubDown_0 : Dc cX1_rubDown 0 1 1 (.aload_n 0) := ⟨by decide +kernel, rfl⟩
theorem dX1_rubDown_1 : Dc cX1_rubDown 1 3 4 (.getfield 9) := ⟨by decide +kernel, rfl⟩
theorem dX1_rubDown_4 : Dc cX1_rubDown 4 1 5 (.iload_n 1) := ⟨by decide +kernel, rfl⟩
theorem dX1_rubDown_5 : Dc cX1_rubDown 5 1 6 (.iconst 0) := ⟨by decide +kernel, rfl⟩
theorem dX1_rubDown_6 : Dc cX1_rubDown 6 1 7 (.aload_n 0) := ⟨by decide +kernel, rfl⟩
theorem dX1_rubDown_7 : Dc cX1_rubDown 7 3 10 (.getfield 9) := ⟨by decide +kernel, rfl⟩
theorem dX1_rubDown_10 : Dc cX1_rubDown 10 1 11 (.iload_n 1) := ⟨by decide +kernel, rfl⟩
theorem dX1_rubDown_11 : Dc cX1_rubDown 11 1 12 (.iaload) := ⟨by decide +kernel, rfl⟩
theorem dX1_rubDown_12 : Dc cX1_rubDown 12 1 13 (.iload_n 2) := ⟨by decide +kernel, rfl⟩
theorem dX1_rubDown_13 : Dc cX1_rubDown 13 1 14 (.isub) := ⟨by decide +kernel, rfl⟩
theorem dX1_rubDown_14 : Dc cX1_rubDown 14 3 17 (.invokestatic 57) := ⟨by decide +kernel, rfl⟩
theorem dX1_rubDown_17 : Dc cX1_rubDown 17 1 18 (.iastore) := ⟨by decide +kernel, rfl⟩
theorem dX1_rubDown_18 : Dc cX1_rubDown 18 1 19 (.aload_n 0) := ⟨by decide +kernel, rfl⟩
theorem dX1_rubDown_19 : Dc cX1_rubDown 19 1 20 (.iconst 1) := ⟨by decide +kernel, rfl⟩
theorem dX1_rubDown_20 : Dc cX1_rubDown 20 3 23 (.putfield 37) := ⟨by decide +kernel, rfl⟩
theorem dX1_rubDown_23 : Dc cX1_rubDown 23 1 24 (.aload_n 0) := ⟨by decide +kernel, rfl⟩
theorem dX1_rubDown_24 : Dc cX1_rubDown 24 3 27 (.getfield 9) := ⟨by decide +kernel, rfl⟩
theorem dX1_rubDown_27 : Dc cX1_rubDown 27 1 28 (.iload_n 1) := ⟨by decide +kernel, rfl⟩
theorem dX1_rubDown_28 : Dc cX1_rubDown 28 1 29 (.iaload) := ⟨by decide +kernel, rfl⟩
theorem dX1_rubDown_29 : Dc cX1_rubDown 29 1 30 (.ireturn) := ⟨by decide +kernel, rfl⟩
theorem dX1_addPrint_0 : Dc cX1_addPrint 0 1 1 (.aload_n 0) := ⟨by decide +kernel, rfl⟩
theorem dX1_addPrint_1 : Dc cX1_addPrint 1 3 4 (.getfield 31) := ⟨by decide +kernel, rfl⟩
theorem dX1_addPrint_4 : Dc cX1_addPrint 4 1 5 (.istore_n 1) := ⟨by decide +kernel, rfl⟩
theorem dX1_addPrint_5 : Dc cX1_addPrint 5 1 6 (.iload_n 1) := ⟨by decide +kernel, rfl⟩
theorem dX1_addPrint_6 : Dc cX1_addPrint 6 3 9 (.ifCond .le 20) := ⟨by decide +kernel, rfl⟩
theorem dX1_addPrint_9 : Dc cX1_addPrint 9 1 10 (.aload_n 0) := ⟨by decide +kernel, rfl⟩
theorem dX1_addPrint_10 : Dc cX1_addPrint 10 3 13 (.getfield 37) := ⟨by decide +kernel, rfl⟩
theorem dX1_addPrint_13 : Dc cX1_addPrint 13 3 16 (.ifCond .eq 13) := ⟨by decide +kernel, rfl⟩
theorem dX1_addPrint_16 : Dc cX1_addPrint 16 1 17 (.aload_n 0) := ⟨by decide +kernel, rfl⟩
theorem dX1_addPrint_17 : Dc cX1_addPrint 17 1 18 (.dup) := ⟨by decide +kernel, rfl⟩
theorem dX1_addPrint_18 : Dc cX1_addPrint 18 3 21 (.getfield 34) := ⟨by decide +kernel, rfl⟩
theorem dX1_addPrint_21 : Dc cX1_addPrint 21 1 22 (.iconst 1) := ⟨by decide +kernel, rfl⟩
theorem dX1_addPrint_22 : Dc cX1_addPrint 22 1 23 (.iadd) := ⟨by decide +kernel, rfl⟩
theorem dX1_addPrint_23 : Dc cX1_addPrint 23 3 26 (.putfield 34) := ⟨by decide +kernel, rfl⟩
theorem dX1_addPrint_26 : Dc cX1_addPrint 26 1 27 (.aload_n 0) := ⟨by decide +kernel, rfl⟩
theorem dX1_addPrint_27 : Dc cX1_addPrint 27 1 28 (.iconst 0) := ⟨by decide +kernel, rfl⟩
theorem dX1_addPrint_28 : Dc cX1_addPrint 28 3 31 (.putfield 37) := ⟨by decide +kernel, rfl⟩
theorem dX1_addPrint_31 : Dc cX1_addPrint 31 1 32 (.aload_n 0) := ⟨by decide +kernel, rfl⟩
theorem dX1_addPrint_32 : Dc cX1_addPrint 32 3 35 (.getfield 15) := ⟨by decide +kernel, rfl⟩
theorem dX1_addPrint_35 : Dc cX1_addPrint 35 1 36 (.iload_n 1) := ⟨by decide +kernel, rfl⟩
theorem dX1_addPrint_36 : Dc cX1_addPrint 36 1 37 (.aload_n 0) := ⟨by decide +kernel, rfl⟩
theorem dX1_addPrint_37 : Dc cX1_addPrint 37 3 40 (.getfield 34) := ⟨by decide +kernel, rfl⟩
theorem dX1_addPrint_40 : Dc cX1_addPrint 40 1 41 (.iastore) := ⟨by decide +kernel, rfl⟩
theorem dX1_addPrint_41 : Dc cX1_addPrint 41 1 42 (.iconst 0) := ⟨by decide +kernel, rfl⟩
theorem dX1_addPrint_42 : Dc cX1_addPrint 42 1 43 (.istore_n 2) := ⟨by decide +kernel, rfl⟩
theorem dX1_addPrint_43 : Dc cX1_addPrint 43 1 44 (.iload_n 2) := ⟨by decide +kernel, rfl⟩
theorem dX1_addPrint_44 : Dc cX1_addPrint 44 2 46 (.bipush 10) := ⟨by decide +kernel, rfl⟩
theorem dX1_addPrint_46 : Dc cX1_addPrint 46 3 49 (.if_icmp .ge 43) := ⟨by decide +kernel, rfl⟩
theorem dX1_addPrint_49 : Dc cX1_addPrint 49 1 50 (.iload_n 2) := ⟨by decide +kernel, rfl⟩
theorem dX1_addPrint_50 : Dc cX1_addPrint 50 1 51 (.aload_n 0) := ⟨by decide +kernel, rfl⟩
theorem dX1_addPrint_51 : Dc cX1_addPrint 51 3 54 (.getfield 21) := ⟨by decide +kernel, rfl⟩
theorem dX1_addPrint_54 : Dc cX1_addPrint 54 3 57 (.if_icmp .ge 12) := ⟨by decide +kernel, rfl⟩
theorem dX1_addPrint_57 : Dc cX1_addPrint 57 1 58 (.aload_n 0) := ⟨by decide +kernel, rfl⟩
theorem dX1_addPrint_58 : Dc cX1_addPrint 58 3 61 (.getfield 9) := ⟨by decide +kernel, rfl⟩
theorem dX1_addPrint_61 : Dc cX1_addPrint 61 1 62 (.iload_n 2) := ⟨by decide +kernel, rfl⟩
theorem dX1_addPrint_62 : Dc cX1_addPrint 62 1 63 (.iaload) := ⟨by decide +kernel, rfl⟩
theorem dX1_addPrint_63 : Dc cX1_addPrint 63 3 66 (.goto 4) := ⟨by decide +kernel, rfl⟩
theorem dX1_addPrint_66 : Dc cX1_addPrint 66 1 67 (.iconst 0) := ⟨by decide +kernel, rfl⟩
theorem dX1_addPrint_67 : Dc cX1_addPrint 67 1 68 (.istore_n 3) := ⟨by decide +kernel, rfl⟩
theorem dX1_addPrint_68 : Dc cX1_addPrint 68 1 69 (.aload_n 0) := ⟨by decide +kernel, rfl⟩
theorem dX1_addPrint_69 : Dc cX1_addPrint 69 3 72 (.getfield 18) := ⟨by decide +kernel, rfl⟩
theorem dX1_addPrint_72 : Dc cX1_addPrint 72 1 73 (.iload_n 1) := ⟨by decide +kernel, rfl⟩
theorem dX1_addPrint_73 : Dc cX1_addPrint 73 2 75 (.bipush 10) := ⟨by decide +kernel, rfl⟩
theorem dX1_addPrint_75 : Dc cX1_addPrint 75 1 76 (.imul) := ⟨by decide +kernel, rfl⟩
theorem dX1_addPrint_76 : Dc cX1_addPrint 76 1 77 (.iload_n 2) := ⟨by decide +kernel, rfl⟩
theorem dX1_addPrint_77 : Dc cX1_addPrint 77 1 78 (.iadd) := ⟨by decide +kernel, rfl⟩
theorem dX1_addPrint_78 : Dc cX1_addPrint 78 1 79 (.iload_n 3) := ⟨by decide +kernel, rfl⟩
theorem dX1_addPrint_79 : Dc cX1_addPrint 79 2 81 (.bipush 10) := ⟨by decide +kernel, rfl⟩
theorem dX1_addPrint_81 : Dc cX1_addPrint 81 1 82 (.idiv) := ⟨by decide +kernel, rfl⟩
theorem dX1_addPrint_82 : Dc cX1_addPrint 82 1 83 (.iastore) := ⟨by decide +kernel, rfl⟩
theorem dX1_addPrint_83 : Dc cX1_addPrint 83 3 86 (.iinc 2 1) := ⟨by decide +kernel, rfl⟩
theorem dX1_addPrint_86 : Dc cX1_addPrint 86 3 89 (.goto (-43)) := ⟨by decide +kernel, rfl⟩
theorem dX1_addPrint_89 : Dc cX1_addPrint 89 1 90 (.aload_n 0) := ⟨by decide +kernel, rfl⟩
theorem dX1_addPrint_90 : Dc cX1_addPrint 90 1 91 (.dup) := ⟨by decide +kernel, rfl⟩
theorem dX1_addPrint_91 : Dc cX1_addPrint 91 3 94 (.getfield 31) := ⟨by decide +kernel, rfl⟩
theorem dX1_addPrint_94 : Dc cX1_addPrint 94 1 95 (.iconst 1) := ⟨by decide +kernel, rfl⟩
theorem dX1_addPrint_95 : Dc cX1_addPrint 95 1 96 (.iadd) := ⟨by decide +kernel, rfl⟩
theorem dX1_addPrint_96 : Dc cX1_addPrint 96 3 99 (.putfield 31) := ⟨by decide +kernel, rfl⟩
theorem dX1_addPrint_99 : Dc cX1_addPrint 99 1 100 (.aload_n 0) := ⟨by decide +kernel, rfl⟩
theorem dX1_addPrint_100 : Dc cX1_addPrint 100 3 103 (.getfield 31) := ⟨by decide +kernel, rfl⟩
theorem dX1_addPrint_103 : Dc cX1_addPrint 103 1 104 (.iconst 3) := ⟨by decide +kernel, rfl⟩
theorem dX1_addPrint_104 : Dc cX1_addPrint 104 1 105 (.irem) := ⟨by decide +kernel, rfl⟩
theorem dX1_addPrint_105 : Dc cX1_addPrint 105 3 108 (.ifCond .ne 7) := ⟨by decide +kernel, rfl⟩
theorem dX1_addPrint_108 : Dc cX1_addPrint 108 1 109 (.aload_n 0) := ⟨by decide +kernel, rfl⟩
theorem dX1_addPrint_109 : Dc cX1_addPrint 109 3 112 (.invokevirtual 60) := ⟨by decide +kernel, rfl⟩
theorem dX1_addPrint_112 : Dc cX1_addPrint 112 1 113 (.iload_n 1) := ⟨by decide +kernel, rfl⟩
theorem dX1_addPrint_113 : Dc cX1_addPrint 113 1 114 (.ireturn) := ⟨by decide +kernel, rfl⟩
theorem dX1_wear_0 : Dc cX1_wear 0 1 1 (.iconst 0) := ⟨by decide +kernel, rfl⟩
theorem dX1_wear_1 : Dc cX1_wear 1 1 2 (.istore_n 1) := ⟨by decide +kernel, rfl⟩
theorem dX1_wear_2 : Dc cX1_wear 2 1 3 (.iload_n 1) := ⟨by decide +kernel, rfl⟩
theorem dX1_wear_3 : Dc cX1_wear 3 1 4 (.aload_n 0) := ⟨by decide +kernel, rfl⟩
theorem dX1_wear_4 : Dc cX1_wear 4 3 7 (.getfield 21) := ⟨by decide +kernel, rfl⟩
theorem dX1_wear_7 : Dc cX1_wear 7 3 10 (.if_icmp .ge 27) := ⟨by decide +kernel, rfl⟩
theorem dX1_wear_10 : Dc cX1_wear 10 1 11 (.aload_n 0) := ⟨by decide +kernel, rfl⟩
theorem dX1_wear_11 : Dc cX1_wear 11 3 14 (.getfield 9) := ⟨by decide +kernel, rfl⟩
theorem dX1_wear_14 : Dc cX1_wear 14 1 15 (.iload_n 1) := ⟨by decide +kernel, rfl⟩
theorem dX1_wear_15 : Dc cX1_wear 15 1 16 (.iconst 0) := ⟨by decide +kernel, rfl⟩
theorem dX1_wear_16 : Dc cX1_wear 16 1 17 (.aload_n 0) := ⟨by decide +kernel, rfl⟩
theorem dX1_wear_17 : Dc cX1_wear 17 3 20 (.getfield 9) := ⟨by decide +kernel, rfl⟩
theorem dX1_wear_20 : Dc cX1_wear 20 1 21 (.iload_n 1) := ⟨by decide +kernel, rfl⟩
theorem dX1_wear_21 : Dc cX1_wear 21 1 22 (.iaload) := ⟨by decide +kernel, rfl⟩
theorem dX1_wear_22 : Dc cX1_wear 22 1 23 (.iconst 1) := ⟨by decide +kernel, rfl⟩
theorem dX1_wear_23 : Dc cX1_wear 23 1 24 (.isub) := ⟨by decide +kernel, rfl⟩
theorem dX1_wear_24 : Dc cX1_wear 24 3 27 (.invokestatic 57) := ⟨by decide +kernel, rfl⟩
theorem dX1_wear_27 : Dc cX1_wear 27 1 28 (.iastore) := ⟨by decide +kernel, rfl⟩
theorem dX1_wear_28 : Dc cX1_wear 28 3 31 (.iinc 1 1) := ⟨by decide +kernel, rfl⟩
theorem dX1_wear_31 : Dc cX1_wear 31 3 34 (.goto (-29)) := ⟨by decide +kernel, rfl⟩
theorem dX1_wear_34 : Dc cX1_wear 34 1 35 (.return_) := ⟨by decide +kernel, rfl⟩
theorem dX1_depthSum_0 : Dc cX1_depthSum 0 1 1 (.iconst 0) := ⟨by decide +kernel, rfl⟩
theorem dX1_depthSum_1 : Dc cX1_depthSum 1 1 2 (.istore_n 1) := ⟨by decide +kernel, rfl⟩
theorem dX1_depthSum_2 : Dc cX1_depthSum 2 1 3 (.iconst 0) := ⟨by decide +kernel, rfl⟩
theorem dX1_depthSum_3 : Dc cX1_depthSum 3 1 4 (.istore_n 2) := ⟨by decide +kernel, rfl⟩
theorem dX1_depthSum_4 : Dc cX1_depthSum 4 1 5 (.iload_n 2) := ⟨by decide +kernel, rfl⟩
theorem dX1_depthSum_5 : Dc cX1_depthSum 5 1 6 (.aload_n 0) := ⟨by decide +kernel, rfl⟩
theorem dX1_depthSum_6 : Dc cX1_depthSum 6 3 9 (.getfield 21) := ⟨by decide +kernel, rfl⟩
theorem dX1_depthSum_9 : Dc cX1_depthSum 9 3 12 (.if_icmp .ge 18) := ⟨by decide +kernel, rfl⟩
theorem dX1_depthSum_12 : Dc cX1_depthSum 12 1 13 (.iload_n 1) := ⟨by decide +kernel, rfl⟩
theorem dX1_depthSum_13 : Dc cX1_depthSum 13 1 14 (.aload_n 0) := ⟨by decide +kernel, rfl⟩
theorem dX1_depthSum_14 : Dc cX1_depthSum 14 3 17 (.getfield 9) := ⟨by decide +kernel, rfl⟩
theorem dX1_depthSum_17 : Dc cX1_depthSum 17 1 18 (.iload_n 2) := ⟨by decide +kernel, rfl⟩
theorem dX1_depthSum_18 : Dc cX1_depthSum 18 1 19 (.iaload) := ⟨by decide +kernel, rfl⟩
theorem dX1_depthSum_19 : Dc cX1_depthSum 19 1 20 (.iadd) := ⟨by decide +kernel, rfl⟩
theorem dX1_depthSum_20 : Dc cX1_depthSum 20 1 21 (.istore_n 1) := ⟨by decide +kernel, rfl⟩
theorem dX1_depthSum_21 : Dc cX1_depthSum 21 3 24 (.iinc 2 1) := ⟨by decide +kernel, rfl⟩
theorem dX1_depthSum_24 : Dc cX1_depthSum 24 3 27 (.goto (-20)) := ⟨by decide +kernel, rfl⟩
theorem dX1_depthSum_27 : Dc cX1_depthSum 27 1 28 (.iload_n 1) := ⟨by decide +kernel, rfl⟩
theorem dX1_depthSum_28 : Dc cX1_depthSum 28 1 29 (.ireturn) := ⟨by decide +kernel, rfl⟩
theorem dX1_printedTone_0 : Dc cX1_printedTone 0 1 1 (.aload_n 0) := ⟨by decide +kernel, rfl⟩
theorem dX1_printedTone_1 : Dc cX1_printedTone 1 3 4 (.getfield 18) := ⟨by decide +kernel, rfl⟩
theorem dX1_printedTone_4 : Dc cX1_printedTone 4 1 5 (.iload_n 1) := ⟨by decide +kernel, rfl⟩
theorem dX1_printedTone_5 : Dc cX1_printedTone 5 2 7 (.bipush 10) := ⟨by decide +kernel, rfl⟩
theorem dX1_printedTone_7 : Dc cX1_printedTone 7 1 8 (.imul) := ⟨by decide +kernel, rfl⟩
theorem dX1_printedTone_8 : Dc cX1_printedTone 8 1 9 (.iload_n 2) := ⟨by decide +kernel, rfl⟩
theorem dX1_printedTone_9 : Dc cX1_printedTone 9 1 10 (.iadd) := ⟨by decide +kernel, rfl⟩
theorem dX1_printedTone_10 : Dc cX1_printedTone 10 1 11 (.iaload) := ⟨by decide +kernel, rfl⟩
theorem dX1_printedTone_11 : Dc cX1_printedTone 11 1 12 (.ireturn) := ⟨by decide +kernel, rfl⟩
theorem dX1_nowhereDarker_0 : Dc cX1_nowhereDarker 0 1 1 (.iconst 0) := ⟨by decide +kernel, rfl⟩
theorem dX1_nowhereDarker_1 : Dc cX1_nowhereDarker 1 1 2 (.istore_n 3) := ⟨by decide +kernel, rfl⟩
theorem dX1_nowhereDarker_2 : Dc cX1_nowhereDarker 2 1 3 (.iload_n 3) := ⟨by decide +kernel, rfl⟩
theorem dX1_nowhereDarker_3 : Dc cX1_nowhereDarker 3 1 4 (.aload_n 0) := ⟨by decide +kernel, rfl⟩
theorem dX1_nowhereDarker_4 : Dc cX1_nowhereDarker 4 3 7 (.getfield 21) := ⟨by decide +kernel, rfl⟩
theorem dX1_nowhereDarker_7 : Dc cX1_nowhereDarker 7 3 10 (.if_icmp .ge 26) := ⟨by decide +kernel, rfl⟩
theorem dX1_nowhereDarker_10 : Dc cX1_nowhereDarker 10 1 11 (.aload_n 0) := ⟨by decide +kernel, rfl⟩
theorem dX1_nowhereDarker_11 : Dc cX1_nowhereDarker 11 1 12 (.iload_n 1) := ⟨by decide +kernel, rfl⟩
theorem dX1_nowhereDarker_12 : Dc cX1_nowhereDarker 12 1 13 (.iload_n 3) := ⟨by decide +kernel, rfl⟩
theorem dX1_nowhereDarker_13 : Dc cX1_nowhereDarker 13 3 16 (.invokevirtual 63) := ⟨by decide +kernel, rfl⟩
theorem dX1_nowhereDarker_16 : Dc cX1_nowhereDarker 16 1 17 (.aload_n 0) := ⟨by decide +kernel, rfl⟩
theorem dX1_nowhereDarker_17 : Dc cX1_nowhereDarker 17 1 18 (.iload_n 2) := ⟨by decide +kernel, rfl⟩
theorem dX1_nowhereDarker_18 : Dc cX1_nowhereDarker 18 1 19 (.iload_n 3) := ⟨by decide +kernel, rfl⟩
theorem dX1_nowhereDarker_19 : Dc cX1_nowhereDarker 19 3 22 (.invokevirtual 63) := ⟨by decide +kernel, rfl⟩
theorem dX1_nowhereDarker_22 : Dc cX1_nowhereDarker 22 3 25 (.if_icmp .le 5) := ⟨by decide +kernel, rfl⟩
theorem dX1_nowhereDarker_25 : Dc cX1_nowhereDarker 25 1 26 (.iconst 0) := ⟨by decide +kernel, rfl⟩
theorem dX1_nowhereDarker_26 : Dc cX1_nowhereDarker 26 1 27 (.ireturn) := ⟨by decide +kernel, rfl⟩
theorem dX1_nowhereDarker_27 : Dc cX1_nowhereDarker 27 3 30 (.iinc 3 1) := ⟨by decide +kernel, rfl⟩
theorem dX1_nowhereDarker_30 : Dc cX1_nowhereDarker 30 3 33 (.goto (-28)) := ⟨by decide +kernel, rfl⟩
theorem dX1_nowhereDarker_33 : Dc cX1_nowhereDarker 33 1 34 (.iconst 1) := ⟨by decide +kernel, rfl⟩
theorem dX1_nowhereDarker_34 : Dc cX1_nowhereDarker 34 1 35 (.ireturn) := ⟨by decide +kernel, rfl⟩
theorem dX1_countOrders_0 : Dc cX1_countOrders 0 1 1 (.iconst 1) := ⟨by decide +kernel, rfl⟩
theorem dX1_countOrders_1 : Dc cX1_countOrders 1 1 2 (.istore_n 2) := ⟨by decide +kernel, rfl⟩
theorem dX1_countOrders_2 : Dc cX1_countOrders 2 1 3 (.iconst 0) := ⟨by decide +kernel, rfl⟩
theorem dX1_countOrders_3 : Dc cX1_countOrders 3 1 4 (.istore_n 3) := ⟨by decide +kernel, rfl⟩
theorem dX1_countOrders_4 : Dc cX1_countOrders 4 1 5 (.iload_n 3) := ⟨by decide +kernel, rfl⟩
theorem dX1_countOrders_5 : Dc cX1_countOrders 5 1 6 (.aload_n 0) := ⟨by decide +kernel, rfl⟩
theorem dX1_countOrders_6 : Dc cX1_countOrders 6 3 9 (.getfield 31) := ⟨by decide +kernel, rfl⟩
theorem dX1_countOrders_9 : Dc cX1_countOrders 9 3 12 (.if_icmp .ge 26) := ⟨by decide +kernel, rfl⟩
theorem dX1_countOrders_12 : Dc cX1_countOrders 12 1 13 (.iload_n 1) := ⟨by decide +kernel, rfl⟩
theorem dX1_countOrders_13 : Dc cX1_countOrders 13 1 14 (.iload_n 3) := ⟨by decide +kernel, rfl⟩
theorem dX1_countOrders_14 : Dc cX1_countOrders 14 3 17 (.invokestatic 47) := ⟨by decide +kernel, rfl⟩
theorem dX1_countOrders_17 : Dc cX1_countOrders 17 3 20 (.ifCond .eq 12) := ⟨by decide +kernel, rfl⟩
theorem dX1_countOrders_20 : Dc cX1_countOrders 20 1 21 (.iload_n 2) := ⟨by decide +kernel, rfl⟩
theorem dX1_countOrders_21 : Dc cX1_countOrders 21 1 22 (.aload_n 0) := ⟨by decide +kernel, rfl⟩
theorem dX1_countOrders_22 : Dc cX1_countOrders 22 1 23 (.iload_n 1) := ⟨by decide +kernel, rfl⟩
theorem dX1_countOrders_23 : Dc cX1_countOrders 23 1 24 (.iload_n 3) := ⟨by decide +kernel, rfl⟩
theorem dX1_countOrders_24 : Dc cX1_countOrders 24 3 27 (.invokevirtual 66) := ⟨by decide +kernel, rfl⟩
theorem dX1_countOrders_27 : Dc cX1_countOrders 27 1 28 (.imul) := ⟨by decide +kernel, rfl⟩
theorem dX1_countOrders_28 : Dc cX1_countOrders 28 1 29 (.istore_n 2) := ⟨by decide +kernel, rfl⟩
theorem dX1_countOrders_29 : Dc cX1_countOrders 29 3 32 (.iinc 3 1) := ⟨by decide +kernel, rfl⟩
theorem dX1_countOrders_32 : Dc cX1_countOrders 32 3 35 (.goto (-28)) := ⟨by decide +kernel, rfl⟩
theorem dX1_countOrders_35 : Dc cX1_countOrders 35 1 36 (.iload_n 2) := ⟨by decide +kernel, rfl⟩
theorem dX1_countOrders_36 : Dc cX1_countOrders 36 1 37 (.ireturn) := ⟨by decide +kernel, rfl⟩
theorem dX1_placesAmongLikes_0 : Dc cX1_placesAmongLikes 0 1 1 (.iconst 1) := ⟨by decide +kernel, rfl⟩
theorem dX1_placesAmongLikes_1 : Dc cX1_placesAmongLikes 1 1 2 (.istore_n 3) := ⟨by decide +kernel, rfl⟩
theorem dX1_placesAmongLikes_2 : Dc cX1_placesAmongLikes 2 1 3 (.iconst 0) := ⟨by decide +kernel, rfl⟩
theorem dX1_placesAmongLikes_3 : Dc cX1_placesAmongLikes 3 2 5 (.istore 4) := ⟨by decide +kernel, rfl⟩
theorem dX1_placesAmongLikes_5 : Dc cX1_placesAmongLikes 5 2 7 (.iload 4) := ⟨by decide +kernel, rfl⟩
theorem dX1_placesAmongLikes_7 : Dc cX1_placesAmongLikes 7 1 8 (.iload_n 2) := ⟨by decide +kernel, rfl⟩
theorem dX1_placesAmongLikes_8 : Dc cX1_placesAmongLikes 8 3 11 (.if_icmp .ge 61) := ⟨by decide +kernel, rfl⟩
theorem dX1_placesAmongLikes_11 : Dc cX1_placesAmongLikes 11 1 12 (.iload_n 1) := ⟨by decide +kernel, rfl⟩
theorem dX1_placesAmongLikes_12 : Dc cX1_placesAmongLikes 12 2 14 (.iload 4) := ⟨by decide +kernel, rfl⟩
theorem dX1_placesAmongLikes_14 : Dc cX1_placesAmongLikes 14 3 17 (.invokestatic 47) := ⟨by decide +kernel, rfl⟩
theorem dX1_placesAmongLikes_17 : Dc cX1_placesAmongLikes 17 3 20 (.ifCond .eq 46) := ⟨by decide +kernel, rfl⟩
theorem dX1_placesAmongLikes_20 : Dc cX1_placesAmongLikes 20 1 21 (.aload_n 0) := ⟨by decide +kernel, rfl⟩
theorem dX1_placesAmongLikes_21 : Dc cX1_placesAmongLikes 21 2 23 (.iload 4) := ⟨by decide +kernel, rfl⟩
theorem dX1_placesAmongLikes_23 : Dc cX1_placesAmongLikes 23 1 24 (.iload_n 2) := ⟨by decide +kernel, rfl⟩
theorem dX1_placesAmongLikes_24 : Dc cX1_placesAmongLikes 24 3 27 (.invokevirtual 69) := ⟨by decide +kernel, rfl⟩
theorem dX1_placesAmongLikes_27 : Dc cX1_placesAmongLikes 27 2 29 (.istore 5) := ⟨by decide +kernel, rfl⟩
theorem dX1_placesAmongLikes_29 : Dc cX1_placesAmongLikes 29 1 30 (.aload_n 0) := ⟨by decide +kernel, rfl⟩
theorem dX1_placesAmongLikes_30 : Dc cX1_placesAmongLikes 30 1 31 (.iload_n 2) := ⟨by decide +kernel, rfl⟩
theorem dX1_placesAmongLikes_31 : Dc cX1_placesAmongLikes 31 2 33 (.iload 4) := ⟨by decide +kernel, rfl⟩
theorem dX1_placesAmongLikes_33 : Dc cX1_placesAmongLikes 33 3 36 (.invokevirtual 69) := ⟨by decide +kernel, rfl⟩
theorem dX1_placesAmongLikes_36 : Dc cX1_placesAmongLikes 36 2 38 (.istore 6) := ⟨by decide +kernel, rfl⟩
theorem dX1_placesAmongLikes_38 : Dc cX1_placesAmongLikes 38 2 40 (.iload 5) := ⟨by decide +kernel, rfl⟩
theorem dX1_placesAmongLikes_40 : Dc cX1_placesAmongLikes 40 3 43 (.ifCond .ne 10) := ⟨by decide +kernel, rfl⟩
theorem dX1_placesAmongLikes_43 : Dc cX1_placesAmongLikes 43 2 45 (.iload 6) := ⟨by decide +kernel, rfl⟩
theorem dX1_placesAmongLikes_45 : Dc cX1_placesAmongLikes 45 3 48 (.ifCond .ne 5) := ⟨by decide +kernel, rfl⟩
theorem dX1_placesAmongLikes_48 : Dc cX1_placesAmongLikes 48 1 49 (.iconst 0) := ⟨by decide +kernel, rfl⟩
theorem dX1_placesAmongLikes_49 : Dc cX1_placesAmongLikes 49 1 50 (.ireturn) := ⟨by decide +kernel, rfl⟩
theorem dX1_placesAmongLikes_50 : Dc cX1_placesAmongLikes 50 2 52 (.iload 5) := ⟨by decide +kernel, rfl⟩
theorem dX1_placesAmongLikes_52 : Dc cX1_placesAmongLikes 52 3 55 (.ifCond .eq 11) := ⟨by decide +kernel, rfl⟩
theorem dX1_placesAmongLikes_55 : Dc cX1_placesAmongLikes 55 2 57 (.iload 6) := ⟨by decide +kernel, rfl⟩
theorem dX1_placesAmongLikes_57 : Dc cX1_placesAmongLikes 57 3 60 (.ifCond .eq 6) := ⟨by decide +kernel, rfl⟩
theorem dX1_placesAmongLikes_60 : Dc cX1_placesAmongLikes 60 3 63 (.iinc 3 1) := ⟨by decide +kernel, rfl⟩
theorem dX1_placesAmongLikes_63 : Dc cX1_placesAmongLikes 63 3 66 (.iinc 4 1) := ⟨by decide +kernel, rfl⟩
theorem dX1_placesAmongLikes_66 : Dc cX1_placesAmongLikes 66 3 69 (.goto (-61)) := ⟨by decide +kernel, rfl⟩
theorem dX1_placesAmongLikes_69 : Dc cX1_placesAmongLikes 69 1 70 (.iload_n 3) := ⟨by decide +kernel, rfl⟩
theorem dX1_placesAmongLikes_70 : Dc cX1_placesAmongLikes 70 1 71 (.ireturn) := ⟨by decide +kernel, rfl⟩
theorem dX1_differenceFrom_0 : Dc cX1_differenceFrom 0 1 1 (.iconst 0) := ⟨by decide +kernel, rfl⟩
theorem dX1_differenceFrom_1 : Dc cX1_differenceFrom 1 1 2 (.istore_n 3) := ⟨by decide +kernel, rfl⟩
theorem dX1_differenceFrom_2 : Dc cX1_differenceFrom 2 1 3 (.iconst 0) := ⟨by decide +kernel, rfl⟩
theorem dX1_differenceFrom_3 : Dc cX1_differenceFrom 3 2 5 (.istore 4) := ⟨by decide +kernel, rfl⟩
theorem dX1_differenceFrom_5 : Dc cX1_differenceFrom 5 2 7 (.iload 4) := ⟨by decide +kernel, rfl⟩
theorem dX1_differenceFrom_7 : Dc cX1_differenceFrom 7 1 8 (.aload_n 0) := ⟨by decide +kernel, rfl⟩
theorem dX1_differenceFrom_8 : Dc cX1_differenceFrom 8 3 11 (.getfield 21) := ⟨by decide +kernel, rfl⟩
theorem dX1_differenceFrom_11 : Dc cX1_differenceFrom 11 3 14 (.if_icmp .ge 27) := ⟨by decide +kernel, rfl⟩
theorem dX1_differenceFrom_14 : Dc cX1_differenceFrom 14 1 15 (.iload_n 3) := ⟨by decide +kernel, rfl⟩
theorem dX1_differenceFrom_15 : Dc cX1_differenceFrom 15 1 16 (.aload_n 0) := ⟨by decide +kernel, rfl⟩
theorem dX1_differenceFrom_16 : Dc cX1_differenceFrom 16 1 17 (.iload_n 1) := ⟨by decide +kernel, rfl⟩
theorem dX1_differenceFrom_17 : Dc cX1_differenceFrom 17 2 19 (.iload 4) := ⟨by decide +kernel, rfl⟩
theorem dX1_differenceFrom_19 : Dc cX1_differenceFrom 19 3 22 (.invokevirtual 63) := ⟨by decide +kernel, rfl⟩
theorem dX1_differenceFrom_22 : Dc cX1_differenceFrom 22 1 23 (.aload_n 2) := ⟨by decide +kernel, rfl⟩
theorem dX1_differenceFrom_23 : Dc cX1_differenceFrom 23 2 25 (.iload 4) := ⟨by decide +kernel, rfl⟩
theorem dX1_differenceFrom_25 : Dc cX1_differenceFrom 25 1 26 (.iaload) := ⟨by decide +kernel, rfl⟩
theorem dX1_differenceFrom_26 : Dc cX1_differenceFrom 26 1 27 (.isub) := ⟨by decide +kernel, rfl⟩
theorem dX1_differenceFrom_27 : Dc cX1_differenceFrom 27 3 30 (.invokestatic 72) := ⟨by decide +kernel, rfl⟩
theorem dX1_differenceFrom_30 : Dc cX1_differenceFrom 30 1 31 (.iadd) := ⟨by decide +kernel, rfl⟩
theorem dX1_differenceFrom_31 : Dc cX1_differenceFrom 31 1 32 (.istore_n 3) := ⟨by decide +kernel, rfl⟩
theorem dX1_differenceFrom_32 : Dc cX1_differenceFrom 32 3 35 (.iinc 4 1) := ⟨by decide +kernel, rfl⟩
theorem dX1_differenceFrom_35 : Dc cX1_differenceFrom 35 3 38 (.goto (-30)) := ⟨by decide +kernel, rfl⟩
theorem dX1_differenceFrom_38 : Dc cX1_differenceFrom 38 1 39 (.iload_n 3) := ⟨by decide +kernel, rfl⟩
theorem dX1_differenceFrom_39 : Dc cX1_differenceFrom 39 1 40 (.ireturn) := ⟨by decide +kernel, rfl⟩
theorem dX2_init_0 : Dc cX2_init 0 1 1 (.aload_n 0) := ⟨by decide +kernel, rfl⟩
theorem dX2_init_1 : Dc cX2_init 1 3 4 (.invokespecial 1) := ⟨by decide +kernel, rfl⟩
theorem dX2_init_4 : Dc cX2_init 4 1 5 (.aload_n 0) := ⟨by decide +kernel, rfl⟩
theorem dX2_init_5 : Dc cX2_init 5 3 8 (.new 7) := ⟨by decide +kernel, rfl⟩
theorem dX2_init_8 : Dc cX2_init 8 1 9 (.dup) := ⟨by decide +kernel, rfl⟩
theorem dX2_init_9 : Dc cX2_init 9 3 12 (.invokespecial 9) := ⟨by decide +kernel, rfl⟩
theorem dX2_init_12 : Dc cX2_init 12 3 15 (.putfield 10) := ⟨by decide +kernel, rfl⟩
theorem dX2_init_15 : Dc cX2_init 15 1 16 (.aload_n 0) := ⟨by decide +kernel, rfl⟩
theorem dX2_init_16 : Dc cX2_init 16 1 17 (.iconst 5) := ⟨by decide +kernel, rfl⟩
theorem dX2_init_17 : Dc cX2_init 17 3 20 (.anewarray 7) := ⟨by decide +kernel, rfl⟩
theorem dX2_init_20 : Dc cX2_init 20 3 23 (.putfield 16) := ⟨by decide +kernel, rfl⟩
theorem dX2_init_23 : Dc cX2_init 23 1 24 (.iconst 0) := ⟨by decide +kernel, rfl⟩
theorem dX2_init_24 : Dc cX2_init 24 1 25 (.istore_n 1) := ⟨by decide +kernel, rfl⟩
theorem dX2_init_25 : Dc cX2_init 25 1 26 (.iload_n 1) := ⟨by decide +kernel, rfl⟩
theorem dX2_init_26 : Dc cX2_init 26 1 27 (.iconst 5) := ⟨by decide +kernel, rfl⟩
theorem dX2_init_27 : Dc cX2_init 27 3 30 (.if_icmp .ge 22) := ⟨by decide +kernel, rfl⟩
theorem dX2_init_30 : Dc cX2_init 30 1 31 (.aload_n 0) := ⟨by decide +kernel, rfl⟩
theorem dX2_init_31 : Dc cX2_init 31 3 34 (.getfield 16) := ⟨by decide +kernel, rfl⟩
theorem dX2_init_34 : Dc cX2_init 34 1 35 (.iload_n 1) := ⟨by decide +kernel, rfl⟩
theorem dX2_init_35 : Dc cX2_init 35 3 38 (.new 7) := ⟨by decide +kernel, rfl⟩
theorem dX2_init_38 : Dc cX2_init 38 1 39 (.dup) := ⟨by decide +kernel, rfl⟩
theorem dX2_init_39 : Dc cX2_init 39 3 42 (.invokespecial 9) := ⟨by decide +kernel, rfl⟩
theorem dX2_init_42 : Dc cX2_init 42 1 43 (.aastore) := ⟨by decide +kernel, rfl⟩
theorem dX2_init_43 : Dc cX2_init 43 3 46 (.iinc 1 1) := ⟨by decide +kernel, rfl⟩
theorem dX2_init_46 : Dc cX2_init 46 3 49 (.goto (-21)) := ⟨by decide +kernel, rfl⟩
theorem dX2_init_49 : Dc cX2_init 49 1 50 (.aload_n 0) := ⟨by decide +kernel, rfl⟩
theorem dX2_init_50 : Dc cX2_init 50 3 53 (.new 20) := ⟨by decide +kernel, rfl⟩
theorem dX2_init_53 : Dc cX2_init 53 1 54 (.dup) := ⟨by decide +kernel, rfl⟩
theorem dX2_init_54 : Dc cX2_init 54 3 57 (.invokespecial 22) := ⟨by decide +kernel, rfl⟩
theorem dX2_init_57 : Dc cX2_init 57 3 60 (.putfield 23) := ⟨by decide +kernel, rfl⟩
theorem dX2_init_60 : Dc cX2_init 60 1 61 (.aload_n 0) := ⟨by decide +kernel, rfl⟩
theorem dX2_init_61 : Dc cX2_init 61 2 63 (.bipush 10) := ⟨by decide +kernel, rfl⟩
theorem dX2_init_63 : Dc cX2_init 63 2 65 (.newarray .int) := ⟨by decide +kernel, rfl⟩
theorem dX2_init_65 : Dc cX2_init 65 3 68 (.putfield 27) := ⟨by decide +kernel, rfl⟩
theorem dX2_init_68 : Dc cX2_init 68 1 69 (.aload_n 0) := ⟨by decide +kernel, rfl⟩
theorem dX2_init_69 : Dc cX2_init 69 1 70 (.iconst 4) := ⟨by decide +kernel, rfl⟩
theorem dX2_init_70 : Dc cX2_init 70 2 72 (.newarray .int) := ⟨by decide +kernel, rfl⟩
theorem dX2_init_72 : Dc cX2_init 72 3 75 (.putfield 31) := ⟨by decide +kernel, rfl⟩
theorem dX2_init_75 : Dc cX2_init 75 1 76 (.aload_n 0) := ⟨by decide +kernel, rfl⟩
theorem dX2_init_76 : Dc cX2_init 76 1 77 (.iconst 0) := ⟨by decide +kernel, rfl⟩
theorem dX2_init_77 : Dc cX2_init 77 3 80 (.putfield 34) := ⟨by decide +kernel, rfl⟩
theorem dX2_init_80 : Dc cX2_init 80 1 81 (.return_) := ⟨by decide +kernel, rfl⟩
theorem dX2_draw_0 : Dc cX2_draw 0 1 1 (.aload_n 0) := ⟨by decide +kernel, rfl⟩
theorem dX2_draw_1 : Dc cX2_draw 1 3 4 (.getfield 10) := ⟨by decide +kernel, rfl⟩
theorem dX2_draw_4 : Dc cX2_draw 4 3 7 (.getfield 38) := ⟨by decide +kernel, rfl⟩
theorem dX2_draw_7 : Dc cX2_draw 7 2 9 (.bipush 10) := ⟨by decide +kernel, rfl⟩
theorem dX2_draw_9 : Dc cX2_draw 9 3 12 (.if_icmp .lt 10) := ⟨by decide +kernel, rfl⟩
theorem dX2_draw_12 : Dc cX2_draw 12 1 13 (.aload_n 0) := ⟨by decide +kernel, rfl⟩
theorem dX2_draw_13 : Dc cX2_draw 13 2 15 (.bipush (-4)) := ⟨by decide +kernel, rfl⟩
theorem dX2_draw_15 : Dc cX2_draw 15 3 18 (.invokevirtual 41) := ⟨by decide +kernel, rfl⟩
theorem dX2_draw_18 : Dc cX2_draw 18 1 19 (.ireturn) := ⟨by decide +kernel, rfl⟩
theorem dX2_draw_19 : Dc cX2_draw 19 1 20 (.aload_n 0) := ⟨by decide +kernel, rfl⟩
theorem dX2_draw_20 : Dc cX2_draw 20 3 23 (.invokevirtual 45) := ⟨by decide +kernel, rfl⟩
theorem dX2_draw_23 : Dc cX2_draw 23 1 24 (.aload_n 0) := ⟨by decide +kernel, rfl⟩
theorem dX2_draw_24 : Dc cX2_draw 24 3 27 (.getfield 10) := ⟨by decide +kernel, rfl⟩
theorem dX2_draw_27 : Dc cX2_draw 27 3 30 (.invokevirtual 48) := ⟨by decide +kernel, rfl⟩
theorem dX2_draw_30 : Dc cX2_draw 30 1 31 (.ireturn) := ⟨by decide +kernel, rfl⟩
theorem dX2_setStrength_0 : Dc cX2_setStrength 0 1 1 (.iload_n 1) := ⟨by decide +kernel, rfl⟩
theorem dX2_setStrength_1 : Dc cX2_setStrength 1 1 2 (.iconst 1) := ⟨by decide +kernel, rfl⟩
theorem dX2_setStrength_2 : Dc cX2_setStrength 2 3 5 (.if_icmp .lt 8) := ⟨by decide +kernel, rfl⟩
theorem dX2_setStrength_5 : Dc cX2_setStrength 5 1 6 (.iload_n 1) := ⟨by decide +kernel, rfl⟩
theorem dX2_setStrength_6 : Dc cX2_setStrength 6 1 7 (.iconst 5) := ⟨by decide +kernel, rfl⟩
theorem dX2_setStrength_7 : Dc cX2_setStrength 7 3 10 (.if_icmp .le 10) := ⟨by decide +kernel, rfl⟩
theorem dX2_setStrength_10 : Dc cX2_setStrength 10 1 11 (.aload_n 0) := ⟨by decide +kernel, rfl⟩
theorem dX2_setStrength_11 : Dc cX2_setStrength 11 2 13 (.bipush (-2)) := ⟨by decide +kernel, rfl⟩
theorem dX2_setStrength_13 : Dc cX2_setStrength 13 3 16 (.invokevirtual 41) := ⟨by decide +kernel, rfl⟩
theorem dX2_setStrength_16 : Dc cX2_setStrength 16 1 17 (.ireturn) := ⟨by decide +kernel, rfl⟩
theorem dX2_setStrength_17 : Dc cX2_setStrength 17 1 18 (.aload_n 0) := ⟨by decide +kernel, rfl⟩
theorem dX2_setStrength_18 : Dc cX2_setStrength 18 3 21 (.invokevirtual 45) := ⟨by decide +kernel, rfl⟩
theorem dX2_setStrength_21 : Dc cX2_setStrength 21 1 22 (.aload_n 0) := ⟨by decide +kernel, rfl⟩
theorem dX2_setStrength_22 : Dc cX2_setStrength 22 3 25 (.getfield 10) := ⟨by decide +kernel, rfl⟩
theorem dX2_setStrength_25 : Dc cX2_setStrength 25 3 28 (.getfield 52) := ⟨by decide +kernel, rfl⟩
theorem dX2_setStrength_28 : Dc cX2_setStrength 28 1 29 (.istore_n 2) := ⟨by decide +kernel, rfl⟩
theorem dX2_setStrength_29 : Dc cX2_setStrength 29 1 30 (.aload_n 0) := ⟨by decide +kernel, rfl⟩
theorem dX2_setStrength_30 : Dc cX2_setStrength 30 3 33 (.getfield 10) := ⟨by decide +kernel, rfl⟩
theorem dX2_setStrength_33 : Dc cX2_setStrength 33 1 34 (.iload_n 1) := ⟨by decide +kernel, rfl⟩
theorem dX2_setStrength_34 : Dc cX2_setStrength 34 3 37 (.putfield 52) := ⟨by decide +kernel, rfl⟩
theorem dX2_setStrength_37 : Dc cX2_setStrength 37 1 38 (.iload_n 2) := ⟨by decide +kernel, rfl⟩
theorem dX2_setStrength_38 : Dc cX2_setStrength 38 1 39 (.ireturn) := ⟨by decide +kernel, rfl⟩
theorem dX2_dip_0 : Dc cX2_dip 0 1 1 (.iload_n 1) := ⟨by decide +kernel, rfl⟩
theorem dX2_dip_1 : Dc cX2_dip 1 3 4 (.ifCond .lt 9) := ⟨by decide +kernel, rfl⟩
theorem dX2_dip_4 : Dc cX2_dip 4 1 5 (.iload_n 1) := ⟨by decide +kernel, rfl⟩
theorem dX2_dip_5 : Dc cX2_dip 5 2 7 (.bipush 99) := ⟨by decide +kernel, rfl⟩
theorem dX2_dip_7 : Dc cX2_dip 7 3 10 (.if_icmp .le 10) := ⟨by decide +kernel, rfl⟩
theorem dX2_dip_10 : Dc cX2_dip 10 1 11 (.aload_n 0) := ⟨by decide +kernel, rfl⟩
theorem dX2_dip_11 : Dc cX2_dip 11 2 13 (.bipush (-2)) := ⟨by decide +kernel, rfl⟩
theorem dX2_dip_13 : Dc cX2_dip 13 3 16 (.invokevirtual 41) := ⟨by decide +kernel, rfl⟩
theorem dX2_dip_16 : Dc cX2_dip 16 1 17 (.ireturn) := ⟨by decide +kernel, rfl⟩
theorem dX2_dip_17 : Dc cX2_dip 17 1 18 (.aload_n 0) := ⟨by decide +kernel, rfl⟩
theorem dX2_dip_18 : Dc cX2_dip 18 3 21 (.invokevirtual 45) := ⟨by decide +kernel, rfl⟩
theorem dX2_dip_21 : Dc cX2_dip 21 1 22 (.aload_n 0) := ⟨by decide +kernel, rfl⟩
theorem dX2_dip_22 : Dc cX2_dip 22 3 25 (.getfield 10) := ⟨by decide +kernel, rfl⟩
theorem dX2_dip_25 : Dc cX2_dip 25 1 26 (.iload_n 1) := ⟨by decide +kernel, rfl⟩
theorem dX2_dip_26 : Dc cX2_dip 26 3 29 (.invokevirtual 55) := ⟨by decide +kernel, rfl⟩
theorem dX2_dip_29 : Dc cX2_dip 29 1 30 (.ireturn) := ⟨by decide +kernel, rfl⟩
theorem dX2_varnish_0 : Dc cX2_varnish 0 1 1 (.iload_n 1) := ⟨by decide +kernel, rfl⟩
theorem dX2_varnish_1 : Dc cX2_varnish 1 1 2 (.aload_n 0) := ⟨by decide +kernel, rfl⟩
theorem dX2_varnish_2 : Dc cX2_varnish 2 3 5 (.getfield 10) := ⟨by decide +kernel, rfl⟩
theorem dX2_varnish_5 : Dc cX2_varnish 5 3 8 (.getfield 38) := ⟨by decide +kernel, rfl⟩
theorem dX2_varnish_8 : Dc cX2_varnish 8 3 11 (.invokestatic 58) := ⟨by decide +kernel, rfl⟩
theorem dX2_varnish_11 : Dc cX2_varnish 11 3 14 (.ifCond .ne 10) := ⟨by decide +kernel, rfl⟩
theorem dX2_varnish_14 : Dc cX2_varnish 14 1 15 (.aload_n 0) := ⟨by decide +kernel, rfl⟩
theorem dX2_varnish_15 : Dc cX2_varnish 15 2 17 (.bipush (-2)) := ⟨by decide +kernel, rfl⟩
theorem dX2_varnish_17 : Dc cX2_varnish 17 3 20 (.invokevirtual 41) := ⟨by decide +kernel, rfl⟩
theorem dX2_varnish_20 : Dc cX2_varnish 20 1 21 (.ireturn) := ⟨by decide +kernel, rfl⟩
theorem dX2_varnish_21 : Dc cX2_varnish 21 1 22 (.aload_n 0) := ⟨by decide +kernel, rfl⟩
theorem dX2_varnish_22 : Dc cX2_varnish 22 3 25 (.invokevirtual 45) := ⟨by decide +kernel, rfl⟩
theorem dX2_varnish_25 : Dc cX2_varnish 25 1 26 (.aload_n 0) := ⟨by decide +kernel, rfl⟩
theorem dX2_varnish_26 : Dc cX2_varnish 26 3 29 (.getfield 10) := ⟨by decide +kernel, rfl⟩
theorem dX2_varnish_29 : Dc cX2_varnish 29 1 30 (.dup) := ⟨by decide +kernel, rfl⟩
theorem dX2_varnish_30 : Dc cX2_varnish 30 3 33 (.getfield 62) := ⟨by decide +kernel, rfl⟩
theorem dX2_varnish_33 : Dc cX2_varnish 33 1 34 (.iload_n 1) := ⟨by decide +kernel, rfl⟩
theorem dX2_varnish_34 : Dc cX2_varnish 34 1 35 (.ior) := ⟨by decide +kernel, rfl⟩
theorem dX2_varnish_35 : Dc cX2_varnish 35 3 38 (.putfield 62) := ⟨by decide +kernel, rfl⟩
theorem dX2_varnish_38 : Dc cX2_varnish 38 1 39 (.aload_n 0) := ⟨by decide +kernel, rfl⟩
theorem dX2_varnish_39 : Dc cX2_varnish 39 3 42 (.getfield 10) := ⟨by decide +kernel, rfl⟩
theorem dX2_varnish_42 : Dc cX2_varnish 42 3 45 (.getfield 62) := ⟨by decide +kernel, rfl⟩
theorem dX2_varnish_45 : Dc cX2_varnish 45 3 48 (.invokestatic 65) := ⟨by decide +kernel, rfl⟩
theorem dX2_varnish_48 : Dc cX2_varnish 48 1 49 (.ireturn) := ⟨by decide +kernel, rfl⟩
theorem dX2_clean_0 : Dc cX2_clean 0 1 1 (.aload_n 0) := ⟨by decide +kernel, rfl⟩
theorem dX2_clean_1 : Dc cX2_clean 1 3 4 (.invokevirtual 45) := ⟨by decide +kernel, rfl⟩
theorem dX2_clean_4 : Dc cX2_clean 4 1 5 (.aload_n 0) := ⟨by decide +kernel, rfl⟩
theorem dX2_clean_5 : Dc cX2_clean 5 3 8 (.getfield 10) := ⟨by decide +kernel, rfl⟩
theorem dX2_clean_8 : Dc cX2_clean 8 3 11 (.getfield 62) := ⟨by decide +kernel, rfl⟩
theorem dX2_clean_11 : Dc cX2_clean 11 3 14 (.invokestatic 65) := ⟨by decide +kernel, rfl⟩
theorem dX2_clean_14 : Dc cX2_clean 14 1 15 (.istore_n 1) := ⟨by decide +kernel, rfl⟩
theorem dX2_clean_15 : Dc cX2_clean 15 1 16 (.aload_n 0) := ⟨by decide +kernel, rfl⟩
theorem dX2_clean_16 : Dc cX2_clean 16 3 19 (.getfield 10) := ⟨by decide +kernel, rfl⟩
theorem dX2_clean_19 : Dc cX2_clean 19 1 20 (.iconst 0) := ⟨by decide +kernel, rfl⟩
theorem dX2_clean_20 : Dc cX2_clean 20 3 23 (.putfield 62) := ⟨by decide +kernel, rfl⟩
theorem dX2_clean_23 : Dc cX2_clean 23 1 24 (.iload_n 1) := ⟨by decide +kernel, rfl⟩
theorem dX2_clean_24 : Dc cX2_clean 24 1 25 (.ireturn) := ⟨by decide +kernel, rfl⟩
theorem dX2_burnish_0 : Dc cX2_burnish 0 1 1 (.aload_n 0) := ⟨by decide +kernel, rfl⟩
theorem dX2_burnish_1 : Dc cX2_burnish 1 1 2 (.iload_n 1) := ⟨by decide +kernel, rfl⟩
theorem dX2_burnish_2 : Dc cX2_burnish 2 3 5 (.invokevirtual 70) := ⟨by decide +kernel, rfl⟩
theorem dX2_burnish_5 : Dc cX2_burnish 5 3 8 (.ifCond .eq 14) := ⟨by decide +kernel, rfl⟩
theorem dX2_burnish_8 : Dc cX2_burnish 8 1 9 (.iload_n 2) := ⟨by decide +kernel, rfl⟩
theorem dX2_burnish_9 : Dc cX2_burnish 9 1 10 (.iconst 1) := ⟨by decide +kernel, rfl⟩
theorem dX2_burnish_10 : Dc cX2_burnish 10 3 13 (.if_icmp .lt 9) := ⟨by decide +kernel, rfl⟩
theorem dX2_burnish_13 : Dc cX2_burnish 13 1 14 (.iload_n 2) := ⟨by decide +kernel, rfl⟩
theorem dX2_burnish_14 : Dc cX2_burnish 14 2 16 (.bipush 99) := ⟨by decide +kernel, rfl⟩
theorem dX2_burnish_16 : Dc cX2_burnish 16 3 19 (.if_icmp .le 10) := ⟨by decide +kernel, rfl⟩
theorem dX2_burnish_19 : Dc cX2_burnish 19 1 20 (.aload_n 0) := ⟨by decide +kernel, rfl⟩
theorem dX2_burnish_20 : Dc cX2_burnish 20 2 22 (.bipush (-2)) := ⟨by decide +kernel, rfl⟩
theorem dX2_burnish_22 : Dc cX2_burnish 22 3 25 (.invokevirtual 41) := ⟨by decide +kernel, rfl⟩
theorem dX2_burnish_25 : Dc cX2_burnish 25 1 26 (.ireturn) := ⟨by decide +kernel, rfl⟩
theorem dX2_burnish_26 : Dc cX2_burnish 26 1 27 (.aload_n 0) := ⟨by decide +kernel, rfl⟩
theorem dX2_burnish_27 : Dc cX2_burnish 27 3 30 (.invokevirtual 45) := ⟨by decide +kernel, rfl⟩
theorem dX2_burnish_30 : Dc cX2_burnish 30 1 31 (.aload_n 0) := ⟨by decide +kernel, rfl⟩
theorem dX2_burnish_31 : Dc cX2_burnish 31 3 34 (.getfield 10) := ⟨by decide +kernel, rfl⟩
theorem dX2_burnish_34 : Dc cX2_burnish 34 1 35 (.iload_n 1) := ⟨by decide +kernel, rfl⟩
theorem dX2_burnish_35 : Dc cX2_burnish 35 1 36 (.iload_n 2) := ⟨by decide +kernel, rfl⟩
theorem dX2_burnish_36 : Dc cX2_burnish 36 3 39 (.invokevirtual 74) := ⟨by decide +kernel, rfl⟩
theorem dX2_burnish_39 : Dc cX2_burnish 39 1 40 (.ireturn) := ⟨by decide +kernel, rfl⟩
theorem dX2_pull_0 : Dc cX2_pull 0 1 1 (.aload_n 0) := ⟨by decide +kernel, rfl⟩
theorem dX2_pull_1 : Dc cX2_pull 1 3 4 (.getfield 10) := ⟨by decide +kernel, rfl⟩
theorem dX2_pull_4 : Dc cX2_pull 4 3 7 (.getfield 78) := ⟨by decide +kernel, rfl⟩
theorem dX2_pull_7 : Dc cX2_pull 7 2 9 (.bipush 12) := ⟨by decide +kernel, rfl⟩
theorem dX2_pull_9 : Dc cX2_pull 9 3 12 (.if_icmp .lt 10) := ⟨by decide +kernel, rfl⟩
theorem dX2_pull_12 : Dc cX2_pull 12 1 13 (.aload_n 0) := ⟨by decide +kernel, rfl⟩
theorem dX2_pull_13 : Dc cX2_pull 13 2 15 (.bipush (-4)) := ⟨by decide +kernel, rfl⟩
theorem dX2_pull_15 : Dc cX2_pull 15 3 18 (.invokevirtual 41) := ⟨by decide +kernel, rfl⟩
theorem dX2_pull_18 : Dc cX2_pull 18 1 19 (.ireturn) := ⟨by decide +kernel, rfl⟩
theorem dX2_pull_19 : Dc cX2_pull 19 1 20 (.aload_n 0) := ⟨by decide +kernel, rfl⟩
theorem dX2_pull_20 : Dc cX2_pull 20 3 23 (.invokevirtual 45) := ⟨by decide +kernel, rfl⟩
theorem dX2_pull_23 : Dc cX2_pull 23 1 24 (.aload_n 0) := ⟨by decide +kernel, rfl⟩
theorem dX2_pull_24 : Dc cX2_pull 24 3 27 (.getfield 10) := ⟨by decide +kernel, rfl⟩
theorem dX2_pull_27 : Dc cX2_pull 27 3 30 (.invokevirtual 81) := ⟨by decide +kernel, rfl⟩
theorem dX2_pull_30 : Dc cX2_pull 30 1 31 (.ireturn) := ⟨by decide +kernel, rfl⟩
theorem dX2_lines_0 : Dc cX2_lines 0 1 1 (.aload_n 0) := ⟨by decide +kernel, rfl⟩
theorem dX2_lines_1 : Dc cX2_lines 1 3 4 (.getfield 10) := ⟨by decide +kernel, rfl⟩
theorem dX2_lines_4 : Dc cX2_lines 4 3 7 (.getfield 38) := ⟨by decide +kernel, rfl⟩
theorem dX2_lines_7 : Dc cX2_lines 7 1 8 (.ireturn) := ⟨by decide +kernel, rfl⟩
theorem dX2_depth_0 : Dc cX2_depth 0 1 1 (.aload_n 0) := ⟨by decide +kernel, rfl⟩
theorem dX2_depth_1 : Dc cX2_depth 1 1 2 (.iload_n 1) := ⟨by decide +kernel, rfl⟩
theorem dX2_depth_2 : Dc cX2_depth 2 3 5 (.invokevirtual 70) := ⟨by decide +kernel, rfl⟩
theorem dX2_depth_5 : Dc cX2_depth 5 3 8 (.ifCond .ne 10) := ⟨by decide +kernel, rfl⟩
theorem dX2_depth_8 : Dc cX2_depth 8 1 9 (.aload_n 0) := ⟨by decide +kernel, rfl⟩
theorem dX2_depth_9 : Dc cX2_depth 9 2 11 (.bipush (-2)) := ⟨by decide +kernel, rfl⟩
theorem dX2_depth_11 : Dc cX2_depth 11 3 14 (.invokevirtual 41) := ⟨by decide +kernel, rfl⟩
theorem dX2_depth_14 : Dc cX2_depth 14 1 15 (.ireturn) := ⟨by decide +kernel, rfl⟩
theorem dX2_depth_15 : Dc cX2_depth 15 1 16 (.aload_n 0) := ⟨by decide +kernel, rfl⟩
theorem dX2_depth_16 : Dc cX2_depth 16 3 19 (.getfield 10) := ⟨by decide +kernel, rfl⟩
theorem dX2_depth_19 : Dc cX2_depth 19 3 22 (.getfield 84) := ⟨by decide +kernel, rfl⟩
theorem dX2_depth_22 : Dc cX2_depth 22 1 23 (.iload_n 1) := ⟨by decide +kernel, rfl⟩
theorem dX2_depth_23 : Dc cX2_depth 23 1 24 (.iaload) := ⟨by decide +kernel, rfl⟩
theorem dX2_depth_24 : Dc cX2_depth 24 1 25 (.ireturn) := ⟨by decide +kernel, rfl⟩
theorem dX2_varnished_0 : Dc cX2_varnished 0 1 1 (.aload_n 0) := ⟨by decide +kernel, rfl⟩
theorem dX2_varnished_1 : Dc cX2_varnished 1 3 4 (.getfield 10) := ⟨by decide +kernel, rfl⟩
theorem dX2_varnished_4 : Dc cX2_varnished 4 3 7 (.getfield 62) := ⟨by decide +kernel, rfl⟩
theorem dX2_varnished_7 : Dc cX2_varnished 7 1 8 (.ireturn) := ⟨by decide +kernel, rfl⟩
theorem dX2_meanDepthBits_0 : Dc cX2_meanDepthBits 0 1 1 (.aload_n 0) := ⟨by decide +kernel, rfl⟩
theorem dX2_meanDepthBits_1 : Dc cX2_meanDepthBits 1 3 4 (.getfield 10) := ⟨by decide +kernel, rfl⟩
theorem dX2_meanDepthBits_4 : Dc cX2_meanDepthBits 4 3 7 (.getfield 38) := ⟨by decide +kernel, rfl⟩
theorem dX2_meanDepthBits_7 : Dc cX2_meanDepthBits 7 1 8 (.istore_n 1) := ⟨by decide +kernel, rfl⟩
theorem dX2_meanDepthBits_8 : Dc cX2_meanDepthBits 8 1 9 (.iload_n 1) := ⟨by decide +kernel, rfl⟩
theorem dX2_meanDepthBits_9 : Dc cX2_meanDepthBits 9 1 10 (.iconst 1) := ⟨by decide +kernel, rfl⟩
theorem dX2_meanDepthBits_10 : Dc cX2_meanDepthBits 10 3 13 (.if_icmp .ge 5) := ⟨by decide +kernel, rfl⟩
theorem dX2_meanDepthBits_13 : Dc cX2_meanDepthBits 13 1 14 (.iconst 0) := ⟨by decide +kernel, rfl⟩
theorem dX2_meanDepthBits_14 : Dc cX2_meanDepthBits 14 1 15 (.ireturn) := ⟨by decide +kernel, rfl⟩
theorem dX2_meanDepthBits_15 : Dc cX2_meanDepthBits 15 1 16 (.aload_n 0) := ⟨by decide +kernel, rfl⟩
theorem dX2_meanDepthBits_16 : Dc cX2_meanDepthBits 16 3 19 (.getfield 10) := ⟨by decide +kernel, rfl⟩
theorem dX2_meanDepthBits_19 : Dc cX2_meanDepthBits 19 3 22 (.invokevirtual 87) := ⟨by decide +kernel, rfl⟩
theorem dX2_meanDepthBits_22 : Dc cX2_meanDepthBits 22 1 23 (.i2f) := ⟨by decide +kernel, rfl⟩
theorem dX2_meanDepthBits_23 : Dc cX2_meanDepthBits 23 1 24 (.iload_n 1) := ⟨by decide +kernel, rfl⟩
theorem dX2_meanDepthBits_24 : Dc cX2_meanDepthBits 24 1 25 (.i2f) := ⟨by decide +kernel, rfl⟩
theorem dX2_meanDepthBits_25 : Dc cX2_meanDepthBits 25 1 26 (.fdiv) := ⟨by decide +kernel, rfl⟩
theorem dX2_meanDepthBits_26 : Dc cX2_meanDepthBits 26 3 29 (.invokestatic 90) := ⟨by decide +kernel, rfl⟩
theorem dX2_meanDepthBits_29 : Dc cX2_meanDepthBits 29 1 30 (.ireturn) := ⟨by decide +kernel, rfl⟩
theorem dX2_prints_0 : Dc cX2_prints 0 1 1 (.aload_n 0) := ⟨by decide +kernel, rfl⟩
theorem dX2_prints_1 : Dc cX2_prints 1 3 4 (.getfield 10) := ⟨by decide +kernel, rfl⟩
theorem dX2_prints_4 : Dc cX2_prints 4 3 7 (.getfield 78) := ⟨by decide +kernel, rfl⟩
theorem dX2_prints_7 : Dc cX2_prints 7 1 8 (.ireturn) := ⟨by decide +kernel, rfl⟩
theorem dX2_stateOf_0 : Dc cX2_stateOf 0 1 1 (.aload_n 0) := ⟨by decide +kernel, rfl⟩
theorem dX2_stateOf_1 : Dc cX2_stateOf 1 1 2 (.iload_n 1) := ⟨by decide +kernel, rfl⟩
theorem dX2_stateOf_2 : Dc cX2_stateOf 2 3 5 (.invokevirtual 94) := ⟨by decide +kernel, rfl⟩
theorem dX2_stateOf_5 : Dc cX2_stateOf 5 3 8 (.ifCond .ne 10) := ⟨by decide +kernel, rfl⟩
theorem dX2_stateOf_8 : Dc cX2_stateOf 8 1 9 (.aload_n 0) := ⟨by decide +kernel, rfl⟩
theorem dX2_stateOf_9 : Dc cX2_stateOf 9 2 11 (.bipush (-2)) := ⟨by decide +kernel, rfl⟩
theorem dX2_stateOf_11 : Dc cX2_stateOf 11 3 14 (.invokevirtual 41) := ⟨by decide +kernel, rfl⟩
theorem dX2_stateOf_14 : Dc cX2_stateOf 14 1 15 (.ireturn) := ⟨by decide +kernel, rfl⟩
theorem dX2_stateOf_15 : Dc cX2_stateOf 15 1 16 (.aload_n 0) := ⟨by decide +kernel, rfl⟩
theorem dX2_stateOf_16 : Dc cX2_stateOf 16 3 19 (.getfield 10) := ⟨by decide +kernel, rfl⟩
theorem dX2_stateOf_19 : Dc cX2_stateOf 19 3 22 (.getfield 97) := ⟨by decide +kernel, rfl⟩
theorem dX2_stateOf_22 : Dc cX2_stateOf 22 1 23 (.iload_n 1) := ⟨by decide +kernel, rfl⟩
theorem dX2_stateOf_23 : Dc cX2_stateOf 23 1 24 (.iaload) := ⟨by decide +kernel, rfl⟩
theorem dX2_stateOf_24 : Dc cX2_stateOf 24 1 25 (.ireturn) := ⟨by decide +kernel, rfl⟩
theorem dX2_tone_0 : Dc cX2_tone 0 1 1 (.aload_n 0) := ⟨by decide +kernel, rfl⟩
theorem dX2_tone_1 : Dc cX2_tone 1 1 2 (.iload_n 1) := ⟨by decide +kernel, rfl⟩
theorem dX2_tone_2 : Dc cX2_tone 2 3 5 (.invokevirtual 94) := ⟨by decide +kernel, rfl⟩
theorem dX2_tone_5 : Dc cX2_tone 5 3 8 (.ifCond .eq 11) := ⟨by decide +kernel, rfl⟩
theorem dX2_tone_8 : Dc cX2_tone 8 1 9 (.aload_n 0) := ⟨by decide +kernel, rfl⟩
theorem dX2_tone_9 : Dc cX2_tone 9 1 10 (.iload_n 2) := ⟨by decide +kernel, rfl⟩
theorem dX2_tone_10 : Dc cX2_tone 10 3 13 (.invokevirtual 70) := ⟨by decide +kernel, rfl⟩
theorem dX2_tone_13 : Dc cX2_tone 13 3 16 (.ifCond .ne 10) := ⟨by decide +kernel, rfl⟩
theorem dX2_tone_16 : Dc cX2_tone 16 1 17 (.aload_n 0) := ⟨by decide +kernel, rfl⟩
theorem dX2_tone_17 : Dc cX2_tone 17 2 19 (.bipush (-2)) := ⟨by decide +kernel, rfl⟩
theorem dX2_tone_19 : Dc cX2_tone 19 3 22 (.invokevirtual 41) := ⟨by decide +kernel, rfl⟩
theorem dX2_tone_22 : Dc cX2_tone 22 1 23 (.ireturn) := ⟨by decide +kernel, rfl⟩
theorem dX2_tone_23 : Dc cX2_tone 23 1 24 (.aload_n 0) := ⟨by decide +kernel, rfl⟩
theorem dX2_tone_24 : Dc cX2_tone 24 3 27 (.getfield 10) := ⟨by decide +kernel, rfl⟩
theorem dX2_tone_27 : Dc cX2_tone 27 1 28 (.iload_n 1) := ⟨by decide +kernel, rfl⟩
theorem dX2_tone_28 : Dc cX2_tone 28 1 29 (.iload_n 2) := ⟨by decide +kernel, rfl⟩
theorem dX2_tone_29 : Dc cX2_tone 29 3 32 (.invokevirtual 100) := ⟨by decide +kernel, rfl⟩
theorem dX2_tone_32 : Dc cX2_tone 32 1 33 (.ireturn) := ⟨by decide +kernel, rfl⟩
theorem dX2_mayPrecede_0 : Dc cX2_mayPrecede 0 1 1 (.aload_n 0) := ⟨by decide +kernel, rfl⟩
theorem dX2_mayPrecede_1 : Dc cX2_mayPrecede 1 1 2 (.iload_n 1) := ⟨by decide +kernel, rfl⟩
theorem dX2_mayPrecede_2 : Dc cX2_mayPrecede 2 3 5 (.invokevirtual 94) := ⟨by decide +kernel, rfl⟩
theorem dX2_mayPrecede_5 : Dc cX2_mayPrecede 5 3 8 (.ifCond .eq 11) := ⟨by decide +kernel, rfl⟩
theorem dX2_mayPrecede_8 : Dc cX2_mayPrecede 8 1 9 (.aload_n 0) := ⟨by decide +kernel, rfl⟩
theorem dX2_mayPrecede_9 : Dc cX2_mayPrecede 9 1 10 (.iload_n 2) := ⟨by decide +kernel, rfl⟩
theorem dX2_mayPrecede_10 : Dc cX2_mayPrecede 10 3 13 (.invokevirtual 94) := ⟨by decide +kernel, rfl⟩
theorem dX2_mayPrecede_13 : Dc cX2_mayPrecede 13 3 16 (.ifCond .ne 10) := ⟨by decide +kernel, rfl⟩
theorem dX2_mayPrecede_16 : Dc cX2_mayPrecede 16 1 17 (.aload_n 0) := ⟨by decide +kernel, rfl⟩
theorem dX2_mayPrecede_17 : Dc cX2_mayPrecede 17 2 19 (.bipush (-2)) := ⟨by decide +kernel, rfl⟩
theorem dX2_mayPrecede_19 : Dc cX2_mayPrecede 19 3 22 (.invokevirtual 41) := ⟨by decide +kernel, rfl⟩
theorem dX2_mayPrecede_22 : Dc cX2_mayPrecede 22 1 23 (.ireturn) := ⟨by decide +kernel, rfl⟩
theorem dX2_mayPrecede_23 : Dc cX2_mayPrecede 23 1 24 (.aload_n 0) := ⟨by decide +kernel, rfl⟩
theorem dX2_mayPrecede_24 : Dc cX2_mayPrecede 24 3 27 (.getfield 10) := ⟨by decide +kernel, rfl⟩
theorem dX2_mayPrecede_27 : Dc cX2_mayPrecede 27 1 28 (.iload_n 1) := ⟨by decide +kernel, rfl⟩
theorem dX2_mayPrecede_28 : Dc cX2_mayPrecede 28 1 29 (.iload_n 2) := ⟨by decide +kernel, rfl⟩
theorem dX2_mayPrecede_29 : Dc cX2_mayPrecede 29 3 32 (.invokevirtual 103) := ⟨by decide +kernel, rfl⟩
theorem dX2_mayPrecede_32 : Dc cX2_mayPrecede 32 3 35 (.ifCond .eq 7) := ⟨by decide +kernel, rfl⟩
theorem dX2_mayPrecede_35 : Dc cX2_mayPrecede 35 1 36 (.iconst 1) := ⟨by decide +kernel, rfl⟩
theorem dX2_mayPrecede_36 : Dc cX2_mayPrecede 36 3 39 (.goto 4) := ⟨by decide +kernel, rfl⟩
theorem dX2_mayPrecede_39 : Dc cX2_mayPrecede 39 1 40 (.iconst 0) := ⟨by decide +kernel, rfl⟩
theorem dX2_mayPrecede_40 : Dc cX2_mayPrecede 40 1 41 (.ireturn) := ⟨by decide +kernel, rfl⟩
theorem dX2_orders_0 : Dc cX2_orders 0 1 1 (.iload_n 1) := ⟨by decide +kernel, rfl⟩
theorem dX2_orders_1 : Dc cX2_orders 1 1 2 (.aload_n 0) := ⟨by decide +kernel, rfl⟩
theorem dX2_orders_2 : Dc cX2_orders 2 3 5 (.getfield 10) := ⟨by decide +kernel, rfl⟩
theorem dX2_orders_5 : Dc cX2_orders 5 3 8 (.getfield 78) := ⟨by decide +kernel, rfl⟩
theorem dX2_orders_8 : Dc cX2_orders 8 3 11 (.invokestatic 58) := ⟨by decide +kernel, rfl⟩
theorem dX2_orders_11 : Dc cX2_orders 11 3 14 (.ifCond .ne 10) := ⟨by decide +kernel, rfl⟩
theorem dX2_orders_14 : Dc cX2_orders 14 1 15 (.aload_n 0) := ⟨by decide +kernel, rfl⟩
theorem dX2_orders_15 : Dc cX2_orders 15 2 17 (.bipush (-2)) := ⟨by decide +kernel, rfl⟩
theorem dX2_orders_17 : Dc cX2_orders 17 3 20 (.invokevirtual 41) := ⟨by decide +kernel, rfl⟩
theorem dX2_orders_20 : Dc cX2_orders 20 1 21 (.ireturn) := ⟨by decide +kernel, rfl⟩
theorem dX2_orders_21 : Dc cX2_orders 21 1 22 (.aload_n 0) := ⟨by decide +kernel, rfl⟩
theorem dX2_orders_22 : Dc cX2_orders 22 3 25 (.getfield 10) := ⟨by decide +kernel, rfl⟩
theorem dX2_orders_25 : Dc cX2_orders 25 1 26 (.iload_n 1) := ⟨by decide +kernel, rfl⟩
theorem dX2_orders_26 : Dc cX2_orders 26 3 29 (.invokevirtual 106) := ⟨by decide +kernel, rfl⟩
theorem dX2_orders_29 : Dc cX2_orders 29 1 30 (.ireturn) := ⟨by decide +kernel, rfl⟩
theorem dX2_bestState_0 : Dc cX2_bestState 0 1 1 (.iconst (-1)) := ⟨by decide +kernel, rfl⟩
theorem dX2_bestState_1 : Dc cX2_bestState 1 1 2 (.istore_n 1) := ⟨by decide +kernel, rfl⟩
theorem dX2_bestState_2 : Dc cX2_bestState 2 1 3 (.iconst 0) := ⟨by decide +kernel, rfl⟩
theorem dX2_bestState_3 : Dc cX2_bestState 3 1 4 (.istore_n 2) := ⟨by decide +kernel, rfl⟩
theorem dX2_bestState_4 : Dc cX2_bestState 4 1 5 (.iconst 0) := ⟨by decide +kernel, rfl⟩
theorem dX2_bestState_5 : Dc cX2_bestState 5 1 6 (.istore_n 3) := ⟨by decide +kernel, rfl⟩
theorem dX2_bestState_6 : Dc cX2_bestState 6 1 7 (.iload_n 3) := ⟨by decide +kernel, rfl⟩
theorem dX2_bestState_7 : Dc cX2_bestState 7 1 8 (.aload_n 0) := ⟨by decide +kernel, rfl⟩
theorem dX2_bestState_8 : Dc cX2_bestState 8 3 11 (.getfield 10) := ⟨by decide +kernel, rfl⟩
theorem dX2_bestState_11 : Dc cX2_bestState 11 3 14 (.getfield 78) := ⟨by decide +kernel, rfl⟩
theorem dX2_bestState_14 : Dc cX2_bestState 14 3 17 (.if_icmp .ge 39) := ⟨by decide +kernel, rfl⟩
theorem dX2_bestState_17 : Dc cX2_bestState 17 1 18 (.aload_n 0) := ⟨by decide +kernel, rfl⟩
theorem dX2_bestState_18 : Dc cX2_bestState 18 3 21 (.getfield 10) := ⟨by decide +kernel, rfl⟩
theorem dX2_bestState_21 : Dc cX2_bestState 21 1 22 (.iload_n 3) := ⟨by decide +kernel, rfl⟩
theorem dX2_bestState_22 : Dc cX2_bestState 22 1 23 (.aload_n 0) := ⟨by decide +kernel, rfl⟩
theorem dX2_bestState_23 : Dc cX2_bestState 23 3 26 (.getfield 27) := ⟨by decide +kernel, rfl⟩
theorem dX2_bestState_26 : Dc cX2_bestState 26 3 29 (.invokevirtual 109) := ⟨by decide +kernel, rfl⟩
theorem dX2_bestState_29 : Dc cX2_bestState 29 2 31 (.istore 4) := ⟨by decide +kernel, rfl⟩
theorem dX2_bestState_31 : Dc cX2_bestState 31 1 32 (.iload_n 1) := ⟨by decide +kernel, rfl⟩
theorem dX2_bestState_32 : Dc cX2_bestState 32 1 33 (.iconst (-1)) := ⟨by decide +kernel, rfl⟩
theorem dX2_bestState_33 : Dc cX2_bestState 33 3 36 (.if_icmp .eq 9) := ⟨by decide +kernel, rfl⟩
theorem dX2_bestState_36 : Dc cX2_bestState 36 2 38 (.iload 4) := ⟨by decide +kernel, rfl⟩
theorem dX2_bestState_38 : Dc cX2_bestState 38 1 39 (.iload_n 2) := ⟨by decide +kernel, rfl⟩
theorem dX2_bestState_39 : Dc cX2_bestState 39 3 42 (.if_icmp .ge 8) := ⟨by decide +kernel, rfl⟩
theorem dX2_bestState_42 : Dc cX2_bestState 42 1 43 (.iload_n 3) := ⟨by decide +kernel, rfl⟩
theorem dX2_bestState_43 : Dc cX2_bestState 43 1 44 (.istore_n 1) := ⟨by decide +kernel, rfl⟩
theorem dX2_bestState_44 : Dc cX2_bestState 44 2 46 (.iload 4) := ⟨by decide +kernel, rfl⟩
theorem dX2_bestState_46 : Dc cX2_bestState 46 1 47 (.istore_n 2) := ⟨by decide +kernel, rfl⟩
theorem dX2_bestState_47 : Dc cX2_bestState 47 3 50 (.iinc 3 1) := ⟨by decide +kernel, rfl⟩
theorem dX2_bestState_50 : Dc cX2_bestState 50 3 53 (.goto (-44)) := ⟨by decide +kernel, rfl⟩
theorem dX2_bestState_53 : Dc cX2_bestState 53 1 54 (.iload_n 1) := ⟨by decide +kernel, rfl⟩
theorem dX2_bestState_54 : Dc cX2_bestState 54 1 55 (.iconst (-1)) := ⟨by decide +kernel, rfl⟩
theorem dX2_bestState_55 : Dc cX2_bestState 55 3 58 (.if_icmp .ne 7) := ⟨by decide +kernel, rfl⟩
theorem dX2_bestState_58 : Dc cX2_bestState 58 1 59 (.iconst (-1)) := ⟨by decide +kernel, rfl⟩
theorem dX2_bestState_59 : Dc cX2_bestState 59 3 62 (.goto 12) := ⟨by decide +kernel, rfl⟩
theorem dX2_bestState_62 : Dc cX2_bestState 62 1 63 (.aload_n 0) := ⟨by decide +kernel, rfl⟩
theorem dX2_bestState_63 : Dc cX2_bestState 63 3 66 (.getfield 10) := ⟨by decide +kernel, rfl⟩
theorem dX2_bestState_66 : Dc cX2_bestState 66 3 69 (.getfield 97) := ⟨by decide +kernel, rfl⟩
theorem dX2_bestState_69 : Dc cX2_bestState 69 1 70 (.iload_n 1) := ⟨by decide +kernel, rfl⟩
theorem dX2_bestState_70 : Dc cX2_bestState 70 1 71 (.iaload) := ⟨by decide +kernel, rfl⟩
theorem dX2_bestState_71 : Dc cX2_bestState 71 1 72 (.ireturn) := ⟨by decide +kernel, rfl⟩
theorem dX2_setTarget_0 : Dc cX2_setTarget 0 1 1 (.iload_n 1) := ⟨by decide +kernel, rfl⟩
theorem dX2_setTarget_1 : Dc cX2_setTarget 1 3 4 (.ifCond .lt 19) := ⟨by decide +kernel, rfl⟩
theorem dX2_setTarget_4 : Dc cX2_setTarget 4 1 5 (.iload_n 1) := ⟨by decide +kernel, rfl⟩
theorem dX2_setTarget_5 : Dc cX2_setTarget 5 2 7 (.bipush 10) := ⟨by decide +kernel, rfl⟩
theorem dX2_setTarget_7 : Dc cX2_setTarget 7 3 10 (.if_icmp .ge 13) := ⟨by decide +kernel, rfl⟩
theorem dX2_setTarget_10 : Dc cX2_setTarget 10 1 11 (.iload_n 2) := ⟨by decide +kernel, rfl⟩
theorem dX2_setTarget_11 : Dc cX2_setTarget 11 3 14 (.ifCond .lt 9) := ⟨by decide +kernel, rfl⟩
theorem dX2_setTarget_14 : Dc cX2_setTarget 14 1 15 (.iload_n 2) := ⟨by decide +kernel, rfl⟩
theorem dX2_setTarget_15 : Dc cX2_setTarget 15 2 17 (.bipush 9) := ⟨by decide +kernel, rfl⟩
theorem dX2_setTarget_17 : Dc cX2_setTarget 17 3 20 (.if_icmp .le 10) := ⟨by decide +kernel, rfl⟩
theorem dX2_setTarget_20 : Dc cX2_setTarget 20 1 21 (.aload_n 0) := ⟨by decide +kernel, rfl⟩
theorem dX2_setTarget_21 : Dc cX2_setTarget 21 2 23 (.bipush (-2)) := ⟨by decide +kernel, rfl⟩
theorem dX2_setTarget_23 : Dc cX2_setTarget 23 3 26 (.invokevirtual 41) := ⟨by decide +kernel, rfl⟩
theorem dX2_setTarget_26 : Dc cX2_setTarget 26 1 27 (.ireturn) := ⟨by decide +kernel, rfl⟩
theorem dX2_setTarget_27 : Dc cX2_setTarget 27 1 28 (.aload_n 0) := ⟨by decide +kernel, rfl⟩
theorem dX2_setTarget_28 : Dc cX2_setTarget 28 3 31 (.getfield 27) := ⟨by decide +kernel, rfl⟩
theorem dX2_setTarget_31 : Dc cX2_setTarget 31 1 32 (.iload_n 1) := ⟨by decide +kernel, rfl⟩
theorem dX2_setTarget_32 : Dc cX2_setTarget 32 1 33 (.iaload) := ⟨by decide +kernel, rfl⟩
theorem dX2_setTarget_33 : Dc cX2_setTarget 33 1 34 (.istore_n 3) := ⟨by decide +kernel, rfl⟩
theorem dX2_setTarget_34 : Dc cX2_setTarget 34 1 35 (.aload_n 0) := ⟨by decide +kernel, rfl⟩
theorem dX2_setTarget_35 : Dc cX2_setTarget 35 3 38 (.getfield 27) := ⟨by decide +kernel, rfl⟩
theorem dX2_setTarget_38 : Dc cX2_setTarget 38 1 39 (.iload_n 1) := ⟨by decide +kernel, rfl⟩
theorem dX2_setTarget_39 : Dc cX2_setTarget 39 1 40 (.iload_n 2) := ⟨by decide +kernel, rfl⟩
theorem dX2_setTarget_40 : Dc cX2_setTarget 40 1 41 (.iastore) := ⟨by decide +kernel, rfl⟩
theorem dX2_setTarget_41 : Dc cX2_setTarget 41 1 42 (.iload_n 3) := ⟨by decide +kernel, rfl⟩
theorem dX2_setTarget_42 : Dc cX2_setTarget 42 1 43 (.ireturn) := ⟨by decide +kernel, rfl⟩
theorem dX2_dips_0 : Dc cX2_dips 0 1 1 (.aload_n 0) := ⟨by decide +kernel, rfl⟩
theorem dX2_dips_1 : Dc cX2_dips 1 3 4 (.getfield 23) := ⟨by decide +kernel, rfl⟩
theorem dX2_dips_4 : Dc cX2_dips 4 1 5 (.aload_n 0) := ⟨by decide +kernel, rfl⟩
theorem dX2_dips_5 : Dc cX2_dips 5 3 8 (.getfield 10) := ⟨by decide +kernel, rfl⟩
theorem dX2_dips_8 : Dc cX2_dips 8 1 9 (.aload_n 0) := ⟨by decide +kernel, rfl⟩
theorem dX2_dips_9 : Dc cX2_dips 9 3 12 (.getfield 27) := ⟨by decide +kernel, rfl⟩
theorem dX2_dips_12 : Dc cX2_dips 12 3 15 (.invokevirtual 113) := ⟨by decide +kernel, rfl⟩
theorem dX2_dips_15 : Dc cX2_dips 15 1 16 (.aload_n 0) := ⟨by decide +kernel, rfl⟩
theorem dX2_dips_16 : Dc cX2_dips 16 3 19 (.getfield 23) := ⟨by decide +kernel, rfl⟩
theorem dX2_dips_19 : Dc cX2_dips 19 3 22 (.getfield 117) := ⟨by decide +kernel, rfl⟩
theorem dX2_dips_22 : Dc cX2_dips 22 3 25 (.ifCond .eq 10) := ⟨by decide +kernel, rfl⟩
theorem dX2_dips_25 : Dc cX2_dips 25 1 26 (.aload_n 0) := ⟨by decide +kernel, rfl⟩
theorem dX2_dips_26 : Dc cX2_dips 26 2 28 (.bipush (-3)) := ⟨by decide +kernel, rfl⟩
theorem dX2_dips_28 : Dc cX2_dips 28 3 31 (.invokevirtual 41) := ⟨by decide +kernel, rfl⟩
theorem dX2_dips_31 : Dc cX2_dips 31 1 32 (.ireturn) := ⟨by decide +kernel, rfl⟩
theorem dX2_dips_32 : Dc cX2_dips 32 1 33 (.aload_n 0) := ⟨by decide +kernel, rfl⟩
theorem dX2_dips_33 : Dc cX2_dips 33 3 36 (.getfield 23) := ⟨by decide +kernel, rfl⟩
theorem dX2_dips_36 : Dc cX2_dips 36 3 39 (.getfield 120) := ⟨by decide +kernel, rfl⟩
theorem dX2_dips_39 : Dc cX2_dips 39 1 40 (.ireturn) := ⟨by decide +kernel, rfl⟩
theorem dX2_dipMinutes_0 : Dc cX2_dipMinutes 0 1 1 (.aload_n 0) := ⟨by decide +kernel, rfl⟩
theorem dX2_dipMinutes_1 : Dc cX2_dipMinutes 1 1 2 (.iload_n 1) := ⟨by decide +kernel, rfl⟩
theorem dX2_dipMinutes_2 : Dc cX2_dipMinutes 2 3 5 (.invokevirtual 123) := ⟨by decide +kernel, rfl⟩
theorem dX2_dipMinutes_5 : Dc cX2_dipMinutes 5 1 6 (.istore_n 2) := ⟨by decide +kernel, rfl⟩
theorem dX2_dipMinutes_6 : Dc cX2_dipMinutes 6 1 7 (.iload_n 2) := ⟨by decide +kernel, rfl⟩
theorem dX2_dipMinutes_7 : Dc cX2_dipMinutes 7 3 10 (.ifCond .eq 5) := ⟨by decide +kernel, rfl⟩
theorem dX2_dipMinutes_10 : Dc cX2_dipMinutes 10 1 11 (.iload_n 2) := ⟨by decide +kernel, rfl⟩
theorem dX2_dipMinutes_11 : Dc cX2_dipMinutes 11 1 12 (.ireturn) := ⟨by decide +kernel, rfl⟩
theorem dX2_dipMinutes_12 : Dc cX2_dipMinutes 12 1 13 (.iload_n 1) := ⟨by decide +kernel, rfl⟩
theorem dX2_dipMinutes_13 : Dc cX2_dipMinutes 13 1 14 (.aload_n 0) := ⟨by decide +kernel, rfl⟩
theorem dX2_dipMinutes_14 : Dc cX2_dipMinutes 14 3 17 (.getfield 23) := ⟨by decide +kernel, rfl⟩
theorem dX2_dipMinutes_17 : Dc cX2_dipMinutes 17 3 20 (.getfield 120) := ⟨by decide +kernel, rfl⟩
theorem dX2_dipMinutes_20 : Dc cX2_dipMinutes 20 3 23 (.if_icmp .ge 14) := ⟨by decide +kernel, rfl⟩
theorem dX2_dipMinutes_23 : Dc cX2_dipMinutes 23 1 24 (.aload_n 0) := ⟨by decide +kernel, rfl⟩
theorem dX2_dipMinutes_24 : Dc cX2_dipMinutes 24 3 27 (.getfield 23) := ⟨by decide +kernel, rfl⟩
theorem dX2_dipMinutes_27 : Dc cX2_dipMinutes 27 1 28 (.iload_n 1) := ⟨by decide +kernel, rfl⟩
theorem dX2_dipMinutes_28 : Dc cX2_dipMinutes 28 3 31 (.invokevirtual 126) := ⟨by decide +kernel, rfl⟩
theorem dX2_dipMinutes_31 : Dc cX2_dipMinutes 31 3 34 (.goto 4) := ⟨by decide +kernel, rfl⟩
theorem dX2_dipMinutes_34 : Dc cX2_dipMinutes 34 1 35 (.iconst (-1)) := ⟨by decide +kernel, rfl⟩
theorem dX2_dipMinutes_35 : Dc cX2_dipMinutes 35 1 36 (.ireturn) := ⟨by decide +kernel, rfl⟩
theorem dX2_dipVarnish_0 : Dc cX2_dipVarnish 0 1 1 (.aload_n 0) := ⟨by decide +kernel, rfl⟩
theorem dX2_dipVarnish_1 : Dc cX2_dipVarnish 1 1 2 (.iload_n 1) := ⟨by decide +kernel, rfl⟩
theorem dX2_dipVarnish_2 : Dc cX2_dipVarnish 2 3 5 (.invokevirtual 123) := ⟨by decide +kernel, rfl⟩
theorem dX2_dipVarnish_5 : Dc cX2_dipVarnish 5 1 6 (.istore_n 2) := ⟨by decide +kernel, rfl⟩
theorem dX2_dipVarnish_6 : Dc cX2_dipVarnish 6 1 7 (.iload_n 2) := ⟨by decide +kernel, rfl⟩
theorem dX2_dipVarnish_7 : Dc cX2_dipVarnish 7 3 10 (.ifCond .eq 5) := ⟨by decide +kernel, rfl⟩
theorem dX2_dipVarnish_10 : Dc cX2_dipVarnish 10 1 11 (.iload_n 2) := ⟨by decide +kernel, rfl⟩
theorem dX2_dipVarnish_11 : Dc cX2_dipVarnish 11 1 12 (.ireturn) := ⟨by decide +kernel, rfl⟩
theorem dX2_dipVarnish_12 : Dc cX2_dipVarnish 12 1 13 (.iload_n 1) := ⟨by decide +kernel, rfl⟩
theorem dX2_dipVarnish_13 : Dc cX2_dipVarnish 13 1 14 (.aload_n 0) := ⟨by decide +kernel, rfl⟩
theorem dX2_dipVarnish_14 : Dc cX2_dipVarnish 14 3 17 (.getfield 23) := ⟨by decide +kernel, rfl⟩
theorem dX2_dipVarnish_17 : Dc cX2_dipVarnish 17 3 20 (.getfield 120) := ⟨by decide +kernel, rfl⟩
theorem dX2_dipVarnish_20 : Dc cX2_dipVarnish 20 3 23 (.if_icmp .ge 14) := ⟨by decide +kernel, rfl⟩
theorem dX2_dipVarnish_23 : Dc cX2_dipVarnish 23 1 24 (.aload_n 0) := ⟨by decide +kernel, rfl⟩
theorem dX2_dipVarnish_24 : Dc cX2_dipVarnish 24 3 27 (.getfield 23) := ⟨by decide +kernel, rfl⟩
theorem dX2_dipVarnish_27 : Dc cX2_dipVarnish 27 1 28 (.iload_n 1) := ⟨by decide +kernel, rfl⟩
theorem dX2_dipVarnish_28 : Dc cX2_dipVarnish 28 3 31 (.invokevirtual 129) := ⟨by decide +kernel, rfl⟩
theorem dX2_dipVarnish_31 : Dc cX2_dipVarnish 31 3 34 (.goto 4) := ⟨by decide +kernel, rfl⟩
theorem dX2_dipVarnish_34 : Dc cX2_dipVarnish 34 1 35 (.iconst (-1)) := ⟨by decide +kernel, rfl⟩
theorem dX2_dipVarnish_35 : Dc cX2_dipVarnish 35 1 36 (.ireturn) := ⟨by decide +kernel, rfl⟩
theorem dX2_obstacles_0 : Dc cX2_obstacles 0 1 1 (.aload_n 0) := ⟨by decide +kernel, rfl⟩
theorem dX2_obstacles_1 : Dc cX2_obstacles 1 3 4 (.getfield 23) := ⟨by decide +kernel, rfl⟩
theorem dX2_obstacles_4 : Dc cX2_obstacles 4 1 5 (.aload_n 0) := ⟨by decide +kernel, rfl⟩
theorem dX2_obstacles_5 : Dc cX2_obstacles 5 3 8 (.getfield 10) := ⟨by decide +kernel, rfl⟩
theorem dX2_obstacles_8 : Dc cX2_obstacles 8 1 9 (.aload_n 0) := ⟨by decide +kernel, rfl⟩
theorem dX2_obstacles_9 : Dc cX2_obstacles 9 3 12 (.getfield 27) := ⟨by decide +kernel, rfl⟩
theorem dX2_obstacles_12 : Dc cX2_obstacles 12 3 15 (.invokevirtual 113) := ⟨by decide +kernel, rfl⟩
theorem dX2_obstacles_15 : Dc cX2_obstacles 15 1 16 (.aload_n 0) := ⟨by decide +kernel, rfl⟩
theorem dX2_obstacles_16 : Dc cX2_obstacles 16 3 19 (.getfield 23) := ⟨by decide +kernel, rfl⟩
theorem dX2_obstacles_19 : Dc cX2_obstacles 19 3 22 (.getfield 117) := ⟨by decide +kernel, rfl⟩
theorem dX2_obstacles_22 : Dc cX2_obstacles 22 1 23 (.ireturn) := ⟨by decide +kernel, rfl⟩
theorem dX2_undo_0 : Dc cX2_undo 0 1 1 (.aload_n 0) := ⟨by decide +kernel, rfl⟩
theorem dX2_undo_1 : Dc cX2_undo 1 3 4 (.getfield 34) := ⟨by decide +kernel, rfl⟩
theorem dX2_undo_4 : Dc cX2_undo 4 1 5 (.iconst 1) := ⟨by decide +kernel, rfl⟩
theorem dX2_undo_5 : Dc cX2_undo 5 3 8 (.if_icmp .ge 10) := ⟨by decide +kernel, rfl⟩
theorem dX2_undo_8 : Dc cX2_undo 8 1 9 (.aload_n 0) := ⟨by decide +kernel, rfl⟩
theorem dX2_undo_9 : Dc cX2_undo 9 2 11 (.bipush (-5)) := ⟨by decide +kernel, rfl⟩
theorem dX2_undo_11 : Dc cX2_undo 11 3 14 (.invokevirtual 41) := ⟨by decide +kernel, rfl⟩
theorem dX2_undo_14 : Dc cX2_undo 14 1 15 (.ireturn) := ⟨by decide +kernel, rfl⟩
theorem dX2_undo_15 : Dc cX2_undo 15 1 16 (.aload_n 0) := ⟨by decide +kernel, rfl⟩
theorem dX2_undo_16 : Dc cX2_undo 16 1 17 (.dup) := ⟨by decide +kernel, rfl⟩
theorem dX2_undo_17 : Dc cX2_undo 17 3 20 (.getfield 34) := ⟨by decide +kernel, rfl⟩
theorem dX2_undo_20 : Dc cX2_undo 20 1 21 (.iconst 1) := ⟨by decide +kernel, rfl⟩
theorem dX2_undo_21 : Dc cX2_undo 21 1 22 (.isub) := ⟨by decide +kernel, rfl⟩
theorem dX2_undo_22 : Dc cX2_undo 22 3 25 (.putfield 34) := ⟨by decide +kernel, rfl⟩
theorem dX2_undo_25 : Dc cX2_undo 25 1 26 (.aload_n 0) := ⟨by decide +kernel, rfl⟩
theorem dX2_undo_26 : Dc cX2_undo 26 3 29 (.getfield 10) := ⟨by decide +kernel, rfl⟩
theorem dX2_undo_29 : Dc cX2_undo 29 1 30 (.aload_n 0) := ⟨by decide +kernel, rfl⟩
theorem dX2_undo_30 : Dc cX2_undo 30 3 33 (.getfield 16) := ⟨by decide +kernel, rfl⟩
theorem dX2_undo_33 : Dc cX2_undo 33 1 34 (.aload_n 0) := ⟨by decide +kernel, rfl⟩
theorem dX2_undo_34 : Dc cX2_undo 34 3 37 (.getfield 34) := ⟨by decide +kernel, rfl⟩
theorem dX2_undo_37 : Dc cX2_undo 37 1 38 (.aaload) := ⟨by decide +kernel, rfl⟩
theorem dX2_undo_38 : Dc cX2_undo 38 3 41 (.invokevirtual 132) := ⟨by decide +kernel, rfl⟩
theorem dX2_undo_41 : Dc cX2_undo 41 1 42 (.aload_n 0) := ⟨by decide +kernel, rfl⟩
theorem dX2_undo_42 : Dc cX2_undo 42 3 45 (.getfield 34) := ⟨by decide +kernel, rfl⟩
theorem dX2_undo_45 : Dc cX2_undo 45 1 46 (.ireturn) := ⟨by decide +kernel, rfl⟩
theorem dX2_errorCount_0 : Dc cX2_errorCount 0 1 1 (.iload_n 1) := ⟨by decide +kernel, rfl⟩
theorem dX2_errorCount_1 : Dc cX2_errorCount 1 2 3 (.bipush (-5)) := ⟨by decide +kernel, rfl⟩
theorem dX2_errorCount_3 : Dc cX2_errorCount 3 3 6 (.if_icmp .lt 9) := ⟨by decide +kernel, rfl⟩
theorem dX2_errorCount_6 : Dc cX2_errorCount 6 1 7 (.iload_n 1) := ⟨by decide +kernel, rfl⟩
theorem dX2_errorCount_7 : Dc cX2_errorCount 7 2 9 (.bipush (-2)) := ⟨by decide +kernel, rfl⟩
theorem dX2_errorCount_9 : Dc cX2_errorCount 9 3 12 (.if_icmp .le 10) := ⟨by decide +kernel, rfl⟩
theorem dX2_errorCount_12 : Dc cX2_errorCount 12 1 13 (.aload_n 0) := ⟨by decide +kernel, rfl⟩
theorem dX2_errorCount_13 : Dc cX2_errorCount 13 2 15 (.bipush (-2)) := ⟨by decide +kernel, rfl⟩
theorem dX2_errorCount_15 : Dc cX2_errorCount 15 3 18 (.invokevirtual 41) := ⟨by decide +kernel, rfl⟩
theorem dX2_errorCount_18 : Dc cX2_errorCount 18 1 19 (.ireturn) := ⟨by decide +kernel, rfl⟩
theorem dX2_errorCount_19 : Dc cX2_errorCount 19 1 20 (.aload_n 0) := ⟨by decide +kernel, rfl⟩
theorem dX2_errorCount_20 : Dc cX2_errorCount 20 3 23 (.getfield 31) := ⟨by decide +kernel, rfl⟩
theorem dX2_errorCount_23 : Dc cX2_errorCount 23 2 25 (.bipush (-2)) := ⟨by decide +kernel, rfl⟩
theorem dX2_errorCount_25 : Dc cX2_errorCount 25 1 26 (.iload_n 1) := ⟨by decide +kernel, rfl⟩
theorem dX2_errorCount_26 : Dc cX2_errorCount 26 1 27 (.isub) := ⟨by decide +kernel, rfl⟩
theorem dX2_errorCount_27 : Dc cX2_errorCount 27 1 28 (.iaload) := ⟨by decide +kernel, rfl⟩
theorem dX2_errorCount_28 : Dc cX2_errorCount 28 1 29 (.ireturn) := ⟨by decide +kernel, rfl⟩
theorem dX2_digest_0 : Dc cX2_digest 0 3 3 (.ldc2_w 136) := ⟨by decide +kernel, rfl⟩
theorem dX2_digest_3 : Dc cX2_digest 3 1 4 (.lstore_n 1) := ⟨by decide +kernel, rfl⟩
theorem dX2_digest_4 : Dc cX2_digest 4 1 5 (.iconst 0) := ⟨by decide +kernel, rfl⟩
theorem dX2_digest_5 : Dc cX2_digest 5 1 6 (.istore_n 3) := ⟨by decide +kernel, rfl⟩
theorem dX2_digest_6 : Dc cX2_digest 6 1 7 (.iload_n 3) := ⟨by decide +kernel, rfl⟩
theorem dX2_digest_7 : Dc cX2_digest 7 1 8 (.iconst 4) := ⟨by decide +kernel, rfl⟩
theorem dX2_digest_8 : Dc cX2_digest 8 3 11 (.if_icmp .ge 20) := ⟨by decide +kernel, rfl⟩
theorem dX2_digest_11 : Dc cX2_digest 11 1 12 (.lload_n 1) := ⟨by decide +kernel, rfl⟩
theorem dX2_digest_12 : Dc cX2_digest 12 1 13 (.aload_n 0) := ⟨by decide +kernel, rfl⟩
theorem dX2_digest_13 : Dc cX2_digest 13 3 16 (.getfield 31) := ⟨by decide +kernel, rfl⟩
theorem dX2_digest_16 : Dc cX2_digest 16 1 17 (.iload_n 3) := ⟨by decide +kernel, rfl⟩
theorem dX2_digest_17 : Dc cX2_digest 17 1 18 (.iaload) := ⟨by decide +kernel, rfl⟩
theorem dX2_digest_18 : Dc cX2_digest 18 3 21 (.invokestatic 138) := ⟨by decide +kernel, rfl⟩
theorem dX2_digest_21 : Dc cX2_digest 21 1 22 (.lstore_n 1) := ⟨by decide +kernel, rfl⟩
theorem dX2_digest_22 : Dc cX2_digest 22 3 25 (.iinc 3 1) := ⟨by decide +kernel, rfl⟩
theorem dX2_digest_25 : Dc cX2_digest 25 3 28 (.goto (-19)) := ⟨by decide +kernel, rfl⟩
theorem dX2_digest_28 : Dc cX2_digest 28 1 29 (.aload_n 0) := ⟨by decide +kernel, rfl⟩
theorem dX2_digest_29 : Dc cX2_digest 29 1 30 (.lload_n 1) := ⟨by decide +kernel, rfl⟩
theorem dX2_digest_30 : Dc cX2_digest 30 3 33 (.invokevirtual 142) := ⟨by decide +kernel, rfl⟩
theorem dX2_digest_33 : Dc cX2_digest 33 1 34 (.lstore_n 1) := ⟨by decide +kernel, rfl⟩
theorem dX2_digest_34 : Dc cX2_digest 34 1 35 (.aload_n 0) := ⟨by decide +kernel, rfl⟩
theorem dX2_digest_35 : Dc cX2_digest 35 1 36 (.lload_n 1) := ⟨by decide +kernel, rfl⟩
theorem dX2_digest_36 : Dc cX2_digest 36 3 39 (.invokevirtual 146) := ⟨by decide +kernel, rfl⟩
theorem dX2_digest_39 : Dc cX2_digest 39 1 40 (.lstore_n 1) := ⟨by decide +kernel, rfl⟩
theorem dX2_digest_40 : Dc cX2_digest 40 1 41 (.aload_n 0) := ⟨by decide +kernel, rfl⟩
theorem dX2_digest_41 : Dc cX2_digest 41 1 42 (.lload_n 1) := ⟨by decide +kernel, rfl⟩
theorem dX2_digest_42 : Dc cX2_digest 42 3 45 (.invokevirtual 149) := ⟨by decide +kernel, rfl⟩
theorem dX2_digest_45 : Dc cX2_digest 45 1 46 (.lstore_n 1) := ⟨by decide +kernel, rfl⟩
theorem dX2_digest_46 : Dc cX2_digest 46 1 47 (.lload_n 1) := ⟨by decide +kernel, rfl⟩
theorem dX2_digest_47 : Dc cX2_digest 47 1 48 (.aload_n 0) := ⟨by decide +kernel, rfl⟩
theorem dX2_digest_48 : Dc cX2_digest 48 3 51 (.getfield 10) := ⟨by decide +kernel, rfl⟩
theorem dX2_digest_51 : Dc cX2_digest 51 1 52 (.aload_n 0) := ⟨by decide +kernel, rfl⟩
theorem dX2_digest_52 : Dc cX2_digest 52 3 55 (.getfield 10) := ⟨by decide +kernel, rfl⟩
theorem dX2_digest_55 : Dc cX2_digest 55 3 58 (.getfield 78) := ⟨by decide +kernel, rfl⟩
theorem dX2_digest_58 : Dc cX2_digest 58 3 61 (.invokestatic 152) := ⟨by decide +kernel, rfl⟩
theorem dX2_digest_61 : Dc cX2_digest 61 3 64 (.invokevirtual 106) := ⟨by decide +kernel, rfl⟩
theorem dX2_digest_64 : Dc cX2_digest 64 3 67 (.invokestatic 138) := ⟨by decide +kernel, rfl⟩
theorem dX2_digest_67 : Dc cX2_digest 67 1 68 (.lstore_n 1) := ⟨by decide +kernel, rfl⟩
theorem dX2_digest_68 : Dc cX2_digest 68 1 69 (.lload_n 1) := ⟨by decide +kernel, rfl⟩
theorem dX2_digest_69 : Dc cX2_digest 69 1 70 (.aload_n 0) := ⟨by decide +kernel, rfl⟩
theorem dX2_digest_70 : Dc cX2_digest 70 3 73 (.getfield 34) := ⟨by decide +kernel, rfl⟩
theorem dX2_digest_73 : Dc cX2_digest 73 3 76 (.invokestatic 138) := ⟨by decide +kernel, rfl⟩
theorem dX2_digest_76 : Dc cX2_digest 76 1 77 (.lreturn) := ⟨by decide +kernel, rfl⟩
theorem dX2_mix_0 : Dc cX2_mix 0 3 3 (.ldc2_w 155) := ⟨by decide +kernel, rfl⟩
theorem dX2_mix_3 : Dc cX2_mix 3 1 4 (.lload_n 0) := ⟨by decide +kernel, rfl⟩
theorem dX2_mix_4 : Dc cX2_mix 4 1 5 (.lmul) := ⟨by decide +kernel, rfl⟩
theorem dX2_mix_5 : Dc cX2_mix 5 1 6 (.iload_n 2) := ⟨by decide +kernel, rfl⟩
theorem dX2_mix_6 : Dc cX2_mix 6 1 7 (.i2l) := ⟨by decide +kernel, rfl⟩
theorem dX2_mix_7 : Dc cX2_mix 7 1 8 (.ladd) := ⟨by decide +kernel, rfl⟩
theorem dX2_mix_8 : Dc cX2_mix 8 1 9 (.lreturn) := ⟨by decide +kernel, rfl⟩
theorem dX2_mixLines_0 : Dc cX2_mixLines 0 1 1 (.lload_n 1) := ⟨by decide +kernel, rfl⟩
theorem dX2_mixLines_1 : Dc cX2_mixLines 1 1 2 (.aload_n 0) := ⟨by decide +kernel, rfl⟩
theorem dX2_mixLines_2 : Dc cX2_mixLines 2 3 5 (.getfield 10) := ⟨by decide +kernel, rfl⟩
theorem dX2_mixLines_5 : Dc cX2_mixLines 5 3 8 (.getfield 52) := ⟨by decide +kernel, rfl⟩
theorem dX2_mixLines_8 : Dc cX2_mixLines 8 3 11 (.invokestatic 138) := ⟨by decide +kernel, rfl⟩
theorem dX2_mixLines_11 : Dc cX2_mixLines 11 1 12 (.lstore_n 3) := ⟨by decide +kernel, rfl⟩
theorem dX2_mixLines_12 : Dc cX2_mixLines 12 1 13 (.lload_n 3) := ⟨by decide +kernel, rfl⟩
theorem dX2_mixLines_13 : Dc cX2_mixLines 13 1 14 (.aload_n 0) := ⟨by decide +kernel, rfl⟩
theorem dX2_mixLines_14 : Dc cX2_mixLines 14 3 17 (.getfield 10) := ⟨by decide +kernel, rfl⟩
theorem dX2_mixLines_17 : Dc cX2_mixLines 17 3 20 (.getfield 38) := ⟨by decide +kernel, rfl⟩
theorem dX2_mixLines_20 : Dc cX2_mixLines 20 3 23 (.invokestatic 138) := ⟨by decide +kernel, rfl⟩
theorem dX2_mixLines_23 : Dc cX2_mixLines 23 1 24 (.lstore_n 3) := ⟨by decide +kernel, rfl⟩
theorem dX2_mixLines_24 : Dc cX2_mixLines 24 1 25 (.iconst 0) := ⟨by decide +kernel, rfl⟩
theorem dX2_mixLines_25 : Dc cX2_mixLines 25 2 27 (.istore 5) := ⟨by decide +kernel, rfl⟩
theorem dX2_mixLines_27 : Dc cX2_mixLines 27 2 29 (.iload 5) := ⟨by decide +kernel, rfl⟩
theorem dX2_mixLines_29 : Dc cX2_mixLines 29 1 30 (.aload_n 0) := ⟨by decide +kernel, rfl⟩
theorem dX2_mixLines_30 : Dc cX2_mixLines 30 3 33 (.getfield 10) := ⟨by decide +kernel, rfl⟩
theorem dX2_mixLines_33 : Dc cX2_mixLines 33 3 36 (.getfield 38) := ⟨by decide +kernel, rfl⟩
theorem dX2_mixLines_36 : Dc cX2_mixLines 36 3 39 (.if_icmp .ge 36) := ⟨by decide +kernel, rfl⟩
theorem dX2_mixLines_39 : Dc cX2_mixLines 39 1 40 (.lload_n 3) := ⟨by decide +kernel, rfl⟩
theorem dX2_mixLines_40 : Dc cX2_mixLines 40 1 41 (.aload_n 0) := ⟨by decide +kernel, rfl⟩
theorem dX2_mixLines_41 : Dc cX2_mixLines 41 3 44 (.getfield 10) := ⟨by decide +kernel, rfl⟩
theorem dX2_mixLines_44 : Dc cX2_mixLines 44 3 47 (.getfield 84) := ⟨by decide +kernel, rfl⟩
theorem dX2_mixLines_47 : Dc cX2_mixLines 47 2 49 (.iload 5) := ⟨by decide +kernel, rfl⟩
theorem dX2_mixLines_49 : Dc cX2_mixLines 49 1 50 (.iaload) := ⟨by decide +kernel, rfl⟩
theorem dX2_mixLines_50 : Dc cX2_mixLines 50 3 53 (.invokestatic 138) := ⟨by decide +kernel, rfl⟩
theorem dX2_mixLines_53 : Dc cX2_mixLines 53 1 54 (.lstore_n 3) := ⟨by decide +kernel, rfl⟩
theorem dX2_mixLines_54 : Dc cX2_mixLines 54 1 55 (.lload_n 3) := ⟨by decide +kernel, rfl⟩
theorem dX2_mixLines_55 : Dc cX2_mixLines 55 1 56 (.aload_n 0) := ⟨by decide +kernel, rfl⟩
theorem dX2_mixLines_56 : Dc cX2_mixLines 56 3 59 (.getfield 27) := ⟨by decide +kernel, rfl⟩
theorem dX2_mixLines_59 : Dc cX2_mixLines 59 2 61 (.iload 5) := ⟨by decide +kernel, rfl⟩
theorem dX2_mixLines_61 : Dc cX2_mixLines 61 1 62 (.iaload) := ⟨by decide +kernel, rfl⟩
theorem dX2_mixLines_62 : Dc cX2_mixLines 62 3 65 (.invokestatic 138) := ⟨by decide +kernel, rfl⟩
theorem dX2_mixLines_65 : Dc cX2_mixLines 65 1 66 (.lstore_n 3) := ⟨by decide +kernel, rfl⟩
theorem dX2_mixLines_66 : Dc cX2_mixLines 66 3 69 (.iinc 5 1) := ⟨by decide +kernel, rfl⟩
theorem dX2_mixLines_69 : Dc cX2_mixLines 69 3 72 (.goto (-42)) := ⟨by decide +kernel, rfl⟩
theorem dX2_mixLines_72 : Dc cX2_mixLines 72 1 73 (.lload_n 3) := ⟨by decide +kernel, rfl⟩
theorem dX2_mixLines_73 : Dc cX2_mixLines 73 1 74 (.aload_n 0) := ⟨by decide +kernel, rfl⟩
theorem dX2_mixLines_74 : Dc cX2_mixLines 74 3 77 (.getfield 10) := ⟨by decide +kernel, rfl⟩
theorem dX2_mixLines_77 : Dc cX2_mixLines 77 3 80 (.getfield 62) := ⟨by decide +kernel, rfl⟩
theorem dX2_mixLines_80 : Dc cX2_mixLines 80 3 83 (.invokestatic 138) := ⟨by decide +kernel, rfl⟩
theorem dX2_mixLines_83 : Dc cX2_mixLines 83 1 84 (.lreturn) := ⟨by decide +kernel, rfl⟩
theorem dX2_mixPrints_0 : Dc cX2_mixPrints 0 1 1 (.lload_n 1) := ⟨by decide +kernel, rfl⟩
theorem dX2_mixPrints_1 : Dc cX2_mixPrints 1 1 2 (.aload_n 0) := ⟨by decide +kernel, rfl⟩
theorem dX2_mixPrints_2 : Dc cX2_mixPrints 2 3 5 (.getfield 10) := ⟨by decide +kernel, rfl⟩
theorem dX2_mixPrints_5 : Dc cX2_mixPrints 5 3 8 (.getfield 78) := ⟨by decide +kernel, rfl⟩
theorem dX2_mixPrints_8 : Dc cX2_mixPrints 8 3 11 (.invokestatic 138) := ⟨by decide +kernel, rfl⟩
theorem dX2_mixPrints_11 : Dc cX2_mixPrints 11 1 12 (.lstore_n 3) := ⟨by decide +kernel, rfl⟩
theorem dX2_mixPrints_12 : Dc cX2_mixPrints 12 1 13 (.iconst 0) := ⟨by decide +kernel, rfl⟩
theorem dX2_mixPrints_13 : Dc cX2_mixPrints 13 2 15 (.istore 5) := ⟨by decide +kernel, rfl⟩
theorem dX2_mixPrints_15 : Dc cX2_mixPrints 15 2 17 (.iload 5) := ⟨by decide +kernel, rfl⟩
theorem dX2_mixPrints_17 : Dc cX2_mixPrints 17 1 18 (.aload_n 0) := ⟨by decide +kernel, rfl⟩
theorem dX2_mixPrints_18 : Dc cX2_mixPrints 18 3 21 (.getfield 10) := ⟨by decide +kernel, rfl⟩
theorem dX2_mixPrints_21 : Dc cX2_mixPrints 21 3 24 (.getfield 78) := ⟨by decide +kernel, rfl⟩
theorem dX2_mixPrints_24 : Dc cX2_mixPrints 24 3 27 (.if_icmp .ge 61) := ⟨by decide +kernel, rfl⟩
theorem dX2_mixPrints_27 : Dc cX2_mixPrints 27 1 28 (.lload_n 3) := ⟨by decide +kernel, rfl⟩
theorem dX2_mixPrints_28 : Dc cX2_mixPrints 28 1 29 (.aload_n 0) := ⟨by decide +kernel, rfl⟩
theorem dX2_mixPrints_29 : Dc cX2_mixPrints 29 3 32 (.getfield 10) := ⟨by decide +kernel, rfl⟩
theorem dX2_mixPrints_32 : Dc cX2_mixPrints 32 3 35 (.getfield 97) := ⟨by decide +kernel, rfl⟩
theorem dX2_mixPrints_35 : Dc cX2_mixPrints 35 2 37 (.iload 5) := ⟨by decide +kernel, rfl⟩
theorem dX2_mixPrints_37 : Dc cX2_mixPrints 37 1 38 (.iaload) := ⟨by decide +kernel, rfl⟩
theorem dX2_mixPrints_38 : Dc cX2_mixPrints 38 3 41 (.invokestatic 138) := ⟨by decide +kernel, rfl⟩
theorem dX2_mixPrints_41 : Dc cX2_mixPrints 41 1 42 (.lstore_n 3) := ⟨by decide +kernel, rfl⟩
theorem dX2_mixPrints_42 : Dc cX2_mixPrints 42 1 43 (.iconst 0) := ⟨by decide +kernel, rfl⟩
theorem dX2_mixPrints_43 : Dc cX2_mixPrints 43 2 45 (.istore 6) := ⟨by decide +kernel, rfl⟩
theorem dX2_mixPrints_45 : Dc cX2_mixPrints 45 2 47 (.iload 6) := ⟨by decide +kernel, rfl⟩
theorem dX2_mixPrints_47 : Dc cX2_mixPrints 47 1 48 (.aload_n 0) := ⟨by decide +kernel, rfl⟩
theorem dX2_mixPrints_48 : Dc cX2_mixPrints 48 3 51 (.getfield 10) := ⟨by decide +kernel, rfl⟩
theorem dX2_mixPrints_51 : Dc cX2_mixPrints 51 3 54 (.getfield 38) := ⟨by decide +kernel, rfl⟩
theorem dX2_mixPrints_54 : Dc cX2_mixPrints 54 3 57 (.if_icmp .ge 25) := ⟨by decide +kernel, rfl⟩
theorem dX2_mixPrints_57 : Dc cX2_mixPrints 57 1 58 (.lload_n 3) := ⟨by decide +kernel, rfl⟩
theorem dX2_mixPrints_58 : Dc cX2_mixPrints 58 1 59 (.aload_n 0) := ⟨by decide +kernel, rfl⟩
theorem dX2_mixPrints_59 : Dc cX2_mixPrints 59 3 62 (.getfield 10) := ⟨by decide +kernel, rfl⟩
theorem dX2_mixPrints_62 : Dc cX2_mixPrints 62 2 64 (.iload 5) := ⟨by decide +kernel, rfl⟩
theorem dX2_mixPrints_64 : Dc cX2_mixPrints 64 2 66 (.iload 6) := ⟨by decide +kernel, rfl⟩
theorem dX2_mixPrints_66 : Dc cX2_mixPrints 66 3 69 (.invokevirtual 100) := ⟨by decide +kernel, rfl⟩
theorem dX2_mixPrints_69 : Dc cX2_mixPrints 69 3 72 (.invokestatic 138) := ⟨by decide +kernel, rfl⟩
theorem dX2_mixPrints_72 : Dc cX2_mixPrints 72 1 73 (.lstore_n 3) := ⟨by decide +kernel, rfl⟩
theorem dX2_mixPrints_73 : Dc cX2_mixPrints 73 3 76 (.iinc 6 1) := ⟨by decide +kernel, rfl⟩
theorem dX2_mixPrints_76 : Dc cX2_mixPrints 76 3 79 (.goto (-31)) := ⟨by decide +kernel, rfl⟩
theorem dX2_mixPrints_79 : Dc cX2_mixPrints 79 3 82 (.iinc 5 1) := ⟨by decide +kernel, rfl⟩
theorem dX2_mixPrints_82 : Dc cX2_mixPrints 82 3 85 (.goto (-67)) := ⟨by decide +kernel, rfl⟩
theorem dX2_mixPrints_85 : Dc cX2_mixPrints 85 1 86 (.lload_n 3) := ⟨by decide +kernel, rfl⟩
theorem dX2_mixPrints_86 : Dc cX2_mixPrints 86 1 87 (.lreturn) := ⟨by decide +kernel, rfl⟩
theorem dX2_mixPlan_0 : Dc cX2_mixPlan 0 1 1 (.aload_n 0) := ⟨by decide +kernel, rfl⟩
theorem dX2_mixPlan_1 : Dc cX2_mixPlan 1 3 4 (.getfield 23) := ⟨by decide +kernel, rfl⟩
theorem dX2_mixPlan_4 : Dc cX2_mixPlan 4 1 5 (.aload_n 0) := ⟨by decide +kernel, rfl⟩
theorem dX2_mixPlan_5 : Dc cX2_mixPlan 5 3 8 (.getfield 10) := ⟨by decide +kernel, rfl⟩
theorem dX2_mixPlan_8 : Dc cX2_mixPlan 8 1 9 (.aload_n 0) := ⟨by decide +kernel, rfl⟩
theorem dX2_mixPlan_9 : Dc cX2_mixPlan 9 3 12 (.getfield 27) := ⟨by decide +kernel, rfl⟩
theorem dX2_mixPlan_12 : Dc cX2_mixPlan 12 3 15 (.invokevirtual 113) := ⟨by decide +kernel, rfl⟩
theorem dX2_mixPlan_15 : Dc cX2_mixPlan 15 1 16 (.lload_n 1) := ⟨by decide +kernel, rfl⟩
theorem dX2_mixPlan_16 : Dc cX2_mixPlan 16 1 17 (.aload_n 0) := ⟨by decide +kernel, rfl⟩
theorem dX2_mixPlan_17 : Dc cX2_mixPlan 17 3 20 (.getfield 23) := ⟨by decide +kernel, rfl⟩
theorem dX2_mixPlan_20 : Dc cX2_mixPlan 20 3 23 (.getfield 117) := ⟨by decide +kernel, rfl⟩
theorem dX2_mixPlan_23 : Dc cX2_mixPlan 23 3 26 (.invokestatic 138) := ⟨by decide +kernel, rfl⟩
theorem dX2_mixPlan_26 : Dc cX2_mixPlan 26 1 27 (.lstore_n 3) := ⟨by decide +kernel, rfl⟩
theorem dX2_mixPlan_27 : Dc cX2_mixPlan 27 1 28 (.aload_n 0) := ⟨by decide +kernel, rfl⟩
theorem dX2_mixPlan_28 : Dc cX2_mixPlan 28 3 31 (.getfield 23) := ⟨by decide +kernel, rfl⟩
theorem dX2_mixPlan_31 : Dc cX2_mixPlan 31 3 34 (.getfield 117) := ⟨by decide +kernel, rfl⟩
theorem dX2_mixPlan_34 : Dc cX2_mixPlan 34 3 37 (.ifCond .eq 5) := ⟨by decide +kernel, rfl⟩
theorem dX2_mixPlan_37 : Dc cX2_mixPlan 37 1 38 (.lload_n 3) := ⟨by decide +kernel, rfl⟩
theorem dX2_mixPlan_38 : Dc cX2_mixPlan 38 1 39 (.lreturn) := ⟨by decide +kernel, rfl⟩
theorem dX2_mixPlan_39 : Dc cX2_mixPlan 39 1 40 (.lload_n 3) := ⟨by decide +kernel, rfl⟩
theorem dX2_mixPlan_40 : Dc cX2_mixPlan 40 1 41 (.aload_n 0) := ⟨by decide +kernel, rfl⟩
theorem dX2_mixPlan_41 : Dc cX2_mixPlan 41 3 44 (.getfield 23) := ⟨by decide +kernel, rfl⟩
theorem dX2_mixPlan_44 : Dc cX2_mixPlan 44 3 47 (.getfield 120) := ⟨by decide +kernel, rfl⟩
theorem dX2_mixPlan_47 : Dc cX2_mixPlan 47 3 50 (.invokestatic 138) := ⟨by decide +kernel, rfl⟩
theorem dX2_mixPlan_50 : Dc cX2_mixPlan 50 1 51 (.lstore_n 3) := ⟨by decide +kernel, rfl⟩
theorem dX2_mixPlan_51 : Dc cX2_mixPlan 51 1 52 (.iconst 0) := ⟨by decide +kernel, rfl⟩
theorem dX2_mixPlan_52 : Dc cX2_mixPlan 52 2 54 (.istore 5) := ⟨by decide +kernel, rfl⟩
theorem dX2_mixPlan_54 : Dc cX2_mixPlan 54 2 56 (.iload 5) := ⟨by decide +kernel, rfl⟩
theorem dX2_mixPlan_56 : Dc cX2_mixPlan 56 1 57 (.aload_n 0) := ⟨by decide +kernel, rfl⟩
theorem dX2_mixPlan_57 : Dc cX2_mixPlan 57 3 60 (.getfield 23) := ⟨by decide +kernel, rfl⟩
theorem dX2_mixPlan_60 : Dc cX2_mixPlan 60 3 63 (.getfield 120) := ⟨by decide +kernel, rfl⟩
theorem dX2_mixPlan_63 : Dc cX2_mixPlan 63 3 66 (.if_icmp .ge 37) := ⟨by decide +kernel, rfl⟩
theorem dX2_mixPlan_66 : Dc cX2_mixPlan 66 1 67 (.lload_n 3) := ⟨by decide +kernel, rfl⟩
theorem dX2_mixPlan_67 : Dc cX2_mixPlan 67 1 68 (.aload_n 0) := ⟨by decide +kernel, rfl⟩
theorem dX2_mixPlan_68 : Dc cX2_mixPlan 68 3 71 (.getfield 23) := ⟨by decide +kernel, rfl⟩
theorem dX2_mixPlan_71 : Dc cX2_mixPlan 71 2 73 (.iload 5) := ⟨by decide +kernel, rfl⟩
theorem dX2_mixPlan_73 : Dc cX2_mixPlan 73 3 76 (.invokevirtual 126) := ⟨by decide +kernel, rfl⟩
theorem dX2_mixPlan_76 : Dc cX2_mixPlan 76 3 79 (.invokestatic 138) := ⟨by decide +kernel, rfl⟩
theorem dX2_mixPlan_79 : Dc cX2_mixPlan 79 1 80 (.lstore_n 3) := ⟨by decide +kernel, rfl⟩
theorem dX2_mixPlan_80 : Dc cX2_mixPlan 80 1 81 (.lload_n 3) := ⟨by decide +kernel, rfl⟩
theorem dX2_mixPlan_81 : Dc cX2_mixPlan 81 1 82 (.aload_n 0) := ⟨by decide +kernel, rfl⟩
theorem dX2_mixPlan_82 : Dc cX2_mixPlan 82 3 85 (.getfield 23) := ⟨by decide +kernel, rfl⟩
theorem dX2_mixPlan_85 : Dc cX2_mixPlan 85 2 87 (.iload 5) := ⟨by decide +kernel, rfl⟩
theorem dX2_mixPlan_87 : Dc cX2_mixPlan 87 3 90 (.invokevirtual 129) := ⟨by decide +kernel, rfl⟩
theorem dX2_mixPlan_90 : Dc cX2_mixPlan 90 3 93 (.invokestatic 138) := ⟨by decide +kernel, rfl⟩
theorem dX2_mixPlan_93 : Dc cX2_mixPlan 93 1 94 (.lstore_n 3) := ⟨by decide +kernel, rfl⟩
theorem dX2_mixPlan_94 : Dc cX2_mixPlan 94 3 97 (.iinc 5 1) := ⟨by decide +kernel, rfl⟩
theorem dX2_mixPlan_97 : Dc cX2_mixPlan 97 3 100 (.goto (-43)) := ⟨by decide +kernel, rfl⟩
theorem dX2_mixPlan_100 : Dc cX2_mixPlan 100 1 101 (.lload_n 3) := ⟨by decide +kernel, rfl⟩
theorem dX2_mixPlan_101 : Dc cX2_mixPlan 101 1 102 (.lreturn) := ⟨by decide +kernel, rfl⟩
theorem dX2_refuse_0 : Dc cX2_refuse 0 1 1 (.aload_n 0) := ⟨by decide +kernel, rfl⟩
theorem dX2_refuse_1 : Dc cX2_refuse 1 3 4 (.getfield 31) := ⟨by decide +kernel, rfl⟩
theorem dX2_refuse_4 : Dc cX2_refuse 4 2 6 (.bipush (-2)) := ⟨by decide +kernel, rfl⟩
theorem dX2_refuse_6 : Dc cX2_refuse 6 1 7 (.iload_n 1) := ⟨by decide +kernel, rfl⟩
theorem dX2_refuse_7 : Dc cX2_refuse 7 1 8 (.isub) := ⟨by decide +kernel, rfl⟩
theorem dX2_refuse_8 : Dc cX2_refuse 8 1 9 (.dup2) := ⟨by decide +kernel, rfl⟩
theorem dX2_refuse_9 : Dc cX2_refuse 9 1 10 (.iaload) := ⟨by decide +kernel, rfl⟩
theorem dX2_refuse_10 : Dc cX2_refuse 10 1 11 (.iconst 1) := ⟨by decide +kernel, rfl⟩
theorem dX2_refuse_11 : Dc cX2_refuse 11 1 12 (.iadd) := ⟨by decide +kernel, rfl⟩
theorem dX2_refuse_12 : Dc cX2_refuse 12 1 13 (.iastore) := ⟨by decide +kernel, rfl⟩
theorem dX2_refuse_13 : Dc cX2_refuse 13 1 14 (.iload_n 1) := ⟨by decide +kernel, rfl⟩
theorem dX2_refuse_14 : Dc cX2_refuse 14 1 15 (.ireturn) := ⟨by decide +kernel, rfl⟩
theorem dX2_faultOfDip_0 : Dc cX2_faultOfDip 0 1 1 (.iload_n 1) := ⟨by decide +kernel, rfl⟩
theorem dX2_faultOfDip_1 : Dc cX2_faultOfDip 1 3 4 (.ifCond .ge 10) := ⟨by decide +kernel, rfl⟩
theorem dX2_faultOfDip_4 : Dc cX2_faultOfDip 4 1 5 (.aload_n 0) := ⟨by decide +kernel, rfl⟩
theorem dX2_faultOfDip_5 : Dc cX2_faultOfDip 5 2 7 (.bipush (-2)) := ⟨by decide +kernel, rfl⟩
theorem dX2_faultOfDip_7 : Dc cX2_faultOfDip 7 3 10 (.invokevirtual 41) := ⟨by decide +kernel, rfl⟩
theorem dX2_faultOfDip_10 : Dc cX2_faultOfDip 10 1 11 (.ireturn) := ⟨by decide +kernel, rfl⟩
theorem dX2_faultOfDip_11 : Dc cX2_faultOfDip 11 1 12 (.aload_n 0) := ⟨by decide +kernel, rfl⟩
theorem dX2_faultOfDip_12 : Dc cX2_faultOfDip 12 3 15 (.getfield 23) := ⟨by decide +kernel, rfl⟩
theorem dX2_faultOfDip_15 : Dc cX2_faultOfDip 15 1 16 (.aload_n 0) := ⟨by decide +kernel, rfl⟩
theorem dX2_faultOfDip_16 : Dc cX2_faultOfDip 16 3 19 (.getfield 10) := ⟨by decide +kernel, rfl⟩
theorem dX2_faultOfDip_19 : Dc cX2_faultOfDip 19 1 20 (.aload_n 0) := ⟨by decide +kernel, rfl⟩
theorem dX2_faultOfDip_20 : Dc cX2_faultOfDip 20 3 23 (.getfield 27) := ⟨by decide +kernel, rfl⟩
theorem dX2_faultOfDip_23 : Dc cX2_faultOfDip 23 3 26 (.invokevirtual 113) := ⟨by decide +kernel, rfl⟩
theorem dX2_faultOfDip_26 : Dc cX2_faultOfDip 26 1 27 (.aload_n 0) := ⟨by decide +kernel, rfl⟩
theorem dX2_faultOfDip_27 : Dc cX2_faultOfDip 27 3 30 (.getfield 23) := ⟨by decide +kernel, rfl⟩
theorem dX2_faultOfDip_30 : Dc cX2_faultOfDip 30 3 33 (.getfield 117) := ⟨by decide +kernel, rfl⟩
theorem dX2_faultOfDip_33 : Dc cX2_faultOfDip 33 3 36 (.ifCond .eq 12) := ⟨by decide +kernel, rfl⟩
theorem dX2_faultOfDip_36 : Dc cX2_faultOfDip 36 1 37 (.aload_n 0) := ⟨by decide +kernel, rfl⟩
theorem dX2_faultOfDip_37 : Dc cX2_faultOfDip 37 2 39 (.bipush (-3)) := ⟨by decide +kernel, rfl⟩
theorem dX2_faultOfDip_39 : Dc cX2_faultOfDip 39 3 42 (.invokevirtual 41) := ⟨by decide +kernel, rfl⟩
theorem dX2_faultOfDip_42 : Dc cX2_faultOfDip 42 3 45 (.goto 4) := ⟨by decide +kernel, rfl⟩
theorem dX2_faultOfDip_45 : Dc cX2_faultOfDip 45 1 46 (.iconst 0) := ⟨by decide +kernel, rfl⟩
theorem dX2_faultOfDip_46 : Dc cX2_faultOfDip 46 1 47 (.ireturn) := ⟨by decide +kernel, rfl⟩
theorem dX2_isLine_0 : Dc cX2_isLine 0 1 1 (.iload_n 1) := ⟨by decide +kernel, rfl⟩
theorem dX2_isLine_1 : Dc cX2_isLine 1 3 4 (.ifCond .lt 18) := ⟨by decide +kernel, rfl⟩
theorem dX2_isLine_4 : Dc cX2_isLine 4 1 5 (.iload_n 1) := ⟨by decide +kernel, rfl⟩
theorem dX2_isLine_5 : Dc cX2_isLine 5 1 6 (.aload_n 0) := ⟨by decide +kernel, rfl⟩
theorem dX2_isLine_6 : Dc cX2_isLine 6 3 9 (.getfield 10) := ⟨by decide +kernel, rfl⟩
theorem dX2_isLine_9 : Dc cX2_isLine 9 3 12 (.getfield 38) := ⟨by decide +kernel, rfl⟩
theorem dX2_isLine_12 : Dc cX2_isLine 12 3 15 (.if_icmp .ge 7) := ⟨by decide +kernel, rfl⟩
theorem dX2_isLine_15 : Dc cX2_isLine 15 1 16 (.iconst 1) := ⟨by decide +kernel, rfl⟩
theorem dX2_isLine_16 : Dc cX2_isLine 16 3 19 (.goto 4) := ⟨by decide +kernel, rfl⟩
theorem dX2_isLine_19 : Dc cX2_isLine 19 1 20 (.iconst 0) := ⟨by decide +kernel, rfl⟩
theorem dX2_isLine_20 : Dc cX2_isLine 20 1 21 (.ireturn) := ⟨by decide +kernel, rfl⟩
theorem dX2_isPrint_0 : Dc cX2_isPrint 0 1 1 (.iload_n 1) := ⟨by decide +kernel, rfl⟩
theorem dX2_isPrint_1 : Dc cX2_isPrint 1 3 4 (.ifCond .lt 18) := ⟨by decide +kernel, rfl⟩
theorem dX2_isPrint_4 : Dc cX2_isPrint 4 1 5 (.iload_n 1) := ⟨by decide +kernel, rfl⟩
theorem dX2_isPrint_5 : Dc cX2_isPrint 5 1 6 (.aload_n 0) := ⟨by decide +kernel, rfl⟩
theorem dX2_isPrint_6 : Dc cX2_isPrint 6 3 9 (.getfield 10) := ⟨by decide +kernel, rfl⟩
theorem dX2_isPrint_9 : Dc cX2_isPrint 9 3 12 (.getfield 78) := ⟨by decide +kernel, rfl⟩
theorem dX2_isPrint_12 : Dc cX2_isPrint 12 3 15 (.if_icmp .ge 7) := ⟨by decide +kernel, rfl⟩
theorem dX2_isPrint_15 : Dc cX2_isPrint 15 1 16 (.iconst 1) := ⟨by decide +kernel, rfl⟩
theorem dX2_isPrint_16 : Dc cX2_isPrint 16 3 19 (.goto 4) := ⟨by decide +kernel, rfl⟩
theorem dX2_isPrint_19 : Dc cX2_isPrint 19 1 20 (.iconst 0) := ⟨by decide +kernel, rfl⟩
theorem dX2_isPrint_20 : Dc cX2_isPrint 20 1 21 (.ireturn) := ⟨by decide +kernel, rfl⟩
theorem dX2_allBelow_0 : Dc cX2_allBelow 0 1 1 (.iconst 1) := ⟨by decide +kernel, rfl⟩
theorem dX2_allBelow_1 : Dc cX2_allBelow 1 1 2 (.iload_n 0) := ⟨by decide +kernel, rfl⟩
theorem dX2_allBelow_2 : Dc cX2_allBelow 2 1 3 (.ishl) := ⟨by decide +kernel, rfl⟩
theorem dX2_allBelow_3 : Dc cX2_allBelow 3 1 4 (.iconst 1) := ⟨by decide +kernel, rfl⟩
theorem dX2_allBelow_4 : Dc cX2_allBelow 4 1 5 (.isub) := ⟨by decide +kernel, rfl⟩
theorem dX2_allBelow_5 : Dc cX2_allBelow 5 1 6 (.ireturn) := ⟨by decide +kernel, rfl⟩
theorem dX2_isSetBelow_0 : Dc cX2_isSetBelow 0 1 1 (.iload_n 0) := ⟨by decide +kernel, rfl⟩
theorem dX2_isSetBelow_1 : Dc cX2_isSetBelow 1 1 2 (.iload_n 1) := ⟨by decide +kernel, rfl⟩
theorem dX2_isSetBelow_2 : Dc cX2_isSetBelow 2 3 5 (.invokestatic 152) := ⟨by decide +kernel, rfl⟩
theorem dX2_isSetBelow_5 : Dc cX2_isSetBelow 5 1 6 (.iconst (-1)) := ⟨by decide +kernel, rfl⟩
theorem dX2_isSetBelow_6 : Dc cX2_isSetBelow 6 1 7 (.ixor) := ⟨by decide +kernel, rfl⟩
theorem dX2_isSetBelow_7 : Dc cX2_isSetBelow 7 1 8 (.iand) := ⟨by decide +kernel, rfl⟩
theorem dX2_isSetBelow_8 : Dc cX2_isSetBelow 8 3 11 (.ifCond .ne 7) := ⟨by decide +kernel, rfl⟩
theorem dX2_isSetBelow_11 : Dc cX2_isSetBelow 11 1 12 (.iconst 1) := ⟨by decide +kernel, rfl⟩
theorem dX2_isSetBelow_12 : Dc cX2_isSetBelow 12 3 15 (.goto 4) := ⟨by decide +kernel, rfl⟩
theorem dX2_isSetBelow_15 : Dc cX2_isSetBelow 15 1 16 (.iconst 0) := ⟨by decide +kernel, rfl⟩
theorem dX2_isSetBelow_16 : Dc cX2_isSetBelow 16 1 17 (.ireturn) := ⟨by decide +kernel, rfl⟩
theorem dX2_contains_0 : Dc cX2_contains 0 1 1 (.iload_n 0) := ⟨by decide +kernel, rfl⟩
theorem dX2_contains_1 : Dc cX2_contains 1 1 2 (.iload_n 1) := ⟨by decide +kernel, rfl⟩
theorem dX2_contains_2 : Dc cX2_contains 2 1 3 (.ishr) := ⟨by decide +kernel, rfl⟩
theorem dX2_contains_3 : Dc cX2_contains 3 1 4 (.iconst 1) := ⟨by decide +kernel, rfl⟩
theorem dX2_contains_4 : Dc cX2_contains 4 1 5 (.iand) := ⟨by decide +kernel, rfl⟩
theorem dX2_contains_5 : Dc cX2_contains 5 3 8 (.ifCond .eq 7) := ⟨by decide +kernel, rfl⟩
theorem dX2_contains_8 : Dc cX2_contains 8 1 9 (.iconst 1) := ⟨by decide +kernel, rfl⟩
theorem dX2_contains_9 : Dc cX2_contains 9 3 12 (.goto 4) := ⟨by decide +kernel, rfl⟩
theorem dX2_contains_12 : Dc cX2_contains 12 1 13 (.iconst 0) := ⟨by decide +kernel, rfl⟩
theorem dX2_contains_13 : Dc cX2_contains 13 1 14 (.ireturn) := ⟨by decide +kernel, rfl⟩
theorem dX2_save_0 : Dc cX2_save 0 1 1 (.aload_n 0) := ⟨by decide +kernel, rfl⟩
theorem dX2_save_1 : Dc cX2_save 1 3 4 (.getfield 34) := ⟨by decide +kernel, rfl⟩
theorem dX2_save_4 : Dc cX2_save 4 1 5 (.iconst 5) := ⟨by decide +kernel, rfl⟩
theorem dX2_save_5 : Dc cX2_save 5 3 8 (.if_icmp .lt 7) := ⟨by decide +kernel, rfl⟩
theorem dX2_save_8 : Dc cX2_save 8 1 9 (.aload_n 0) := ⟨by decide +kernel, rfl⟩
theorem dX2_save_9 : Dc cX2_save 9 3 12 (.invokevirtual 157) := ⟨by decide +kernel, rfl⟩
theorem dX2_save_12 : Dc cX2_save 12 1 13 (.aload_n 0) := ⟨by decide +kernel, rfl⟩
theorem dX2_save_13 : Dc cX2_save 13 3 16 (.getfield 16) := ⟨by decide +kernel, rfl⟩
theorem dX2_save_16 : Dc cX2_save 16 1 17 (.aload_n 0) := ⟨by decide +kernel, rfl⟩
theorem dX2_save_17 : Dc cX2_save 17 3 20 (.getfield 34) := ⟨by decide +kernel, rfl⟩
theorem dX2_save_20 : Dc cX2_save 20 1 21 (.aaload) := ⟨by decide +kernel, rfl⟩
theorem dX2_save_21 : Dc cX2_save 21 1 22 (.aload_n 0) := ⟨by decide +kernel, rfl⟩
theorem dX2_save_22 : Dc cX2_save 22 3 25 (.getfield 10) := ⟨by decide +kernel, rfl⟩
theorem dX2_save_25 : Dc cX2_save 25 3 28 (.invokevirtual 132) := ⟨by decide +kernel, rfl⟩
theorem dX2_save_28 : Dc cX2_save 28 1 29 (.aload_n 0) := ⟨by decide +kernel, rfl⟩
theorem dX2_save_29 : Dc cX2_save 29 1 30 (.dup) := ⟨by decide +kernel, rfl⟩
theorem dX2_save_30 : Dc cX2_save 30 3 33 (.getfield 34) := ⟨by decide +kernel, rfl⟩
theorem dX2_save_33 : Dc cX2_save 33 1 34 (.iconst 1) := ⟨by decide +kernel, rfl⟩
theorem dX2_save_34 : Dc cX2_save 34 1 35 (.iadd) := ⟨by decide +kernel, rfl⟩
theorem dX2_save_35 : Dc cX2_save 35 3 38 (.putfield 34) := ⟨by decide +kernel, rfl⟩
theorem dX2_save_38 : Dc cX2_save 38 1 39 (.return_) := ⟨by decide +kernel, rfl⟩
theorem dX2_dropOldest_0 : Dc cX2_dropOldest 0 1 1 (.aload_n 0) := ⟨by decide +kernel, rfl⟩
theorem dX2_dropOldest_1 : Dc cX2_dropOldest 1 3 4 (.getfield 16) := ⟨by decide +kernel, rfl⟩
theorem dX2_dropOldest_4 : Dc cX2_dropOldest 4 1 5 (.iconst 0) := ⟨by decide +kernel, rfl⟩
theorem dX2_dropOldest_5 : Dc cX2_dropOldest 5 1 6 (.aaload) := ⟨by decide +kernel, rfl⟩
theorem dX2_dropOldest_6 : Dc cX2_dropOldest 6 1 7 (.astore_n 1) := ⟨by decide +kernel, rfl⟩
theorem dX2_dropOldest_7 : Dc cX2_dropOldest 7 1 8 (.iconst 1) := ⟨by decide +kernel, rfl⟩
theorem dX2_dropOldest_8 : Dc cX2_dropOldest 8 1 9 (.istore_n 2) := ⟨by decide +kernel, rfl⟩
theorem dX2_dropOldest_9 : Dc cX2_dropOldest 9 1 10 (.iload_n 2) := ⟨by decide +kernel, rfl⟩
theorem dX2_dropOldest_10 : Dc cX2_dropOldest 10 1 11 (.iconst 5) := ⟨by decide +kernel, rfl⟩
theorem dX2_dropOldest_11 : Dc cX2_dropOldest 11 3 14 (.if_icmp .ge 23) := ⟨by decide +kernel, rfl⟩
theorem dX2_dropOldest_14 : Dc cX2_dropOldest 14 1 15 (.aload_n 0) := ⟨by decide +kernel, rfl⟩
theorem dX2_dropOldest_15 : Dc cX2_dropOldest 15 3 18 (.getfield 16) := ⟨by decide +kernel, rfl⟩
theorem dX2_dropOldest_18 : Dc cX2_dropOldest 18 1 19 (.iload_n 2) := ⟨by decide +kernel, rfl⟩
theorem dX2_dropOldest_19 : Dc cX2_dropOldest 19 1 20 (.iconst 1) := ⟨by decide +kernel, rfl⟩
theorem dX2_dropOldest_20 : Dc cX2_dropOldest 20 1 21 (.isub) := ⟨by decide +kernel, rfl⟩
theorem dX2_dropOldest_21 : Dc cX2_dropOldest 21 1 22 (.aload_n 0) := ⟨by decide +kernel, rfl⟩
theorem dX2_dropOldest_22 : Dc cX2_dropOldest 22 3 25 (.getfield 16) := ⟨by decide +kernel, rfl⟩
theorem dX2_dropOldest_25 : Dc cX2_dropOldest 25 1 26 (.iload_n 2) := ⟨by decide +kernel, rfl⟩
theorem dX2_dropOldest_26 : Dc cX2_dropOldest 26 1 27 (.aaload) := ⟨by decide +kernel, rfl⟩
theorem dX2_dropOldest_27 : Dc cX2_dropOldest 27 1 28 (.aastore) := ⟨by decide +kernel, rfl⟩
theorem dX2_dropOldest_28 : Dc cX2_dropOldest 28 3 31 (.iinc 2 1) := ⟨by decide +kernel, rfl⟩
theorem dX2_dropOldest_31 : Dc cX2_dropOldest 31 3 34 (.goto (-22)) := ⟨by decide +kernel, rfl⟩
theorem dX2_dropOldest_34 : Dc cX2_dropOldest 34 1 35 (.aload_n 0) := ⟨by decide +kernel, rfl⟩
theorem dX2_dropOldest_35 : Dc cX2_dropOldest 35 3 38 (.getfield 16) := ⟨by decide +kernel, rfl⟩
theorem dX2_dropOldest_38 : Dc cX2_dropOldest 38 1 39 (.iconst 4) := ⟨by decide +kernel, rfl⟩
theorem dX2_dropOldest_39 : Dc cX2_dropOldest 39 1 40 (.aload_n 1) := ⟨by decide +kernel, rfl⟩
theorem dX2_dropOldest_40 : Dc cX2_dropOldest 40 1 41 (.aastore) := ⟨by decide +kernel, rfl⟩
theorem dX2_dropOldest_41 : Dc cX2_dropOldest 41 1 42 (.aload_n 0) := ⟨by decide +kernel, rfl⟩
theorem dX2_dropOldest_42 : Dc cX2_dropOldest 42 1 43 (.iconst 4) := ⟨by decide +kernel, rfl⟩
theorem dX2_dropOldest_43 : Dc cX2_dropOldest 43 3 46 (.putfield 34) := ⟨by decide +kernel, rfl⟩
theorem dX2_dropOldest_46 : Dc cX2_dropOldest 46 1 47 (.return_) := ⟨by decide +kernel, rfl⟩
theorem dX2_bitsOf_0 : Dc cX2_bitsOf 0 1 1 (.fload_n 0) := ⟨by decide +kernel, rfl⟩
theorem dX2_bitsOf_1 : Dc cX2_bitsOf 1 1 2 (.fconst 0) := ⟨by decide +kernel, rfl⟩
theorem dX2_bitsOf_2 : Dc cX2_bitsOf 2 1 3 (.fcmp .g) := ⟨by decide +kernel, rfl⟩
theorem dX2_bitsOf_3 : Dc cX2_bitsOf 3 3 6 (.ifCond .gt 5) := ⟨by decide +kernel, rfl⟩
theorem dX2_bitsOf_6 : Dc cX2_bitsOf 6 1 7 (.iconst 0) := ⟨by decide +kernel, rfl⟩
theorem dX2_bitsOf_7 : Dc cX2_bitsOf 7 1 8 (.ireturn) := ⟨by decide +kernel, rfl⟩
theorem dX2_bitsOf_8 : Dc cX2_bitsOf 8 1 9 (.fload_n 0) := ⟨by decide +kernel, rfl⟩
theorem dX2_bitsOf_9 : Dc cX2_bitsOf 9 1 10 (.fstore_n 1) := ⟨by decide +kernel, rfl⟩
theorem dX2_bitsOf_10 : Dc cX2_bitsOf 10 2 12 (.bipush 127) := ⟨by decide +kernel, rfl⟩
theorem dX2_bitsOf_12 : Dc cX2_bitsOf 12 1 13 (.istore_n 2) := ⟨by decide +kernel, rfl⟩
theorem dX2_bitsOf_13 : Dc cX2_bitsOf 13 1 14 (.fload_n 1) := ⟨by decide +kernel, rfl⟩
theorem dX2_bitsOf_14 : Dc cX2_bitsOf 14 1 15 (.fconst 2) := ⟨by decide +kernel, rfl⟩
theorem dX2_bitsOf_15 : Dc cX2_bitsOf 15 1 16 (.fcmp .l) := ⟨by decide +kernel, rfl⟩
theorem dX2_bitsOf_16 : Dc cX2_bitsOf 16 3 19 (.ifCond .lt 20) := ⟨by decide +kernel, rfl⟩
theorem dX2_bitsOf_19 : Dc cX2_bitsOf 19 1 20 (.iload_n 2) := ⟨by decide +kernel, rfl⟩
theorem dX2_bitsOf_20 : Dc cX2_bitsOf 20 3 23 (.sipush 254) := ⟨by decide +kernel, rfl⟩
theorem dX2_bitsOf_23 : Dc cX2_bitsOf 23 3 26 (.if_icmp .ge 13) := ⟨by decide +kernel, rfl⟩
theorem dX2_bitsOf_26 : Dc cX2_bitsOf 26 1 27 (.fload_n 1) := ⟨by decide +kernel, rfl⟩
theorem dX2_bitsOf_27 : Dc cX2_bitsOf 27 1 28 (.fconst 2) := ⟨by decide +kernel, rfl⟩
theorem dX2_bitsOf_28 : Dc cX2_bitsOf 28 1 29 (.fdiv) := ⟨by decide +kernel, rfl⟩
theorem dX2_bitsOf_29 : Dc cX2_bitsOf 29 1 30 (.fstore_n 1) := ⟨by decide +kernel, rfl⟩
theorem dX2_bitsOf_30 : Dc cX2_bitsOf 30 3 33 (.iinc 2 1) := ⟨by decide +kernel, rfl⟩
theorem dX2_bitsOf_33 : Dc cX2_bitsOf 33 3 36 (.goto (-20)) := ⟨by decide +kernel, rfl⟩
theorem dX2_bitsOf_36 : Dc cX2_bitsOf 36 1 37 (.fload_n 1) := ⟨by decide +kernel, rfl⟩
theorem dX2_bitsOf_37 : Dc cX2_bitsOf 37 1 38 (.fconst 1) := ⟨by decide +kernel, rfl⟩
theorem dX2_bitsOf_38 : Dc cX2_bitsOf 38 1 39 (.fcmp .g) := ⟨by decide +kernel, rfl⟩
theorem dX2_bitsOf_39 : Dc cX2_bitsOf 39 3 42 (.ifCond .ge 18) := ⟨by decide +kernel, rfl⟩
theorem dX2_bitsOf_42 : Dc cX2_bitsOf 42 1 43 (.iload_n 2) := ⟨by decide +kernel, rfl⟩
theorem dX2_bitsOf_43 : Dc cX2_bitsOf 43 1 44 (.iconst 1) := ⟨by decide +kernel, rfl⟩
theorem dX2_bitsOf_44 : Dc cX2_bitsOf 44 3 47 (.if_icmp .le 13) := ⟨by decide +kernel, rfl⟩
theorem dX2_bitsOf_47 : Dc cX2_bitsOf 47 1 48 (.fload_n 1) := ⟨by decide +kernel, rfl⟩
theorem dX2_bitsOf_48 : Dc cX2_bitsOf 48 1 49 (.fconst 2) := ⟨by decide +kernel, rfl⟩
theorem dX2_bitsOf_49 : Dc cX2_bitsOf 49 1 50 (.fmul) := ⟨by decide +kernel, rfl⟩
theorem dX2_bitsOf_50 : Dc cX2_bitsOf 50 1 51 (.fstore_n 1) := ⟨by decide +kernel, rfl⟩
theorem dX2_bitsOf_51 : Dc cX2_bitsOf 51 3 54 (.iinc 2 (-1)) := ⟨by decide +kernel, rfl⟩
theorem dX2_bitsOf_54 : Dc cX2_bitsOf 54 3 57 (.goto (-18)) := ⟨by decide +kernel, rfl⟩
theorem dX2_bitsOf_57 : Dc cX2_bitsOf 57 1 58 (.iload_n 2) := ⟨by decide +kernel, rfl⟩
theorem dX2_bitsOf_58 : Dc cX2_bitsOf 58 2 60 (.bipush 23) := ⟨by decide +kernel, rfl⟩
theorem dX2_bitsOf_60 : Dc cX2_bitsOf 60 1 61 (.ishl) := ⟨by decide +kernel, rfl⟩
theorem dX2_bitsOf_61 : Dc cX2_bitsOf 61 1 62 (.fload_n 1) := ⟨by decide +kernel, rfl⟩
theorem dX2_bitsOf_62 : Dc cX2_bitsOf 62 1 63 (.fconst 1) := ⟨by decide +kernel, rfl⟩
theorem dX2_bitsOf_63 : Dc cX2_bitsOf 63 1 64 (.fsub) := ⟨by decide +kernel, rfl⟩
theorem dX2_bitsOf_64 : Dc cX2_bitsOf 64 2 66 (.ldc 160) := ⟨by decide +kernel, rfl⟩
theorem dX2_bitsOf_66 : Dc cX2_bitsOf 66 1 67 (.fmul) := ⟨by decide +kernel, rfl⟩
theorem dX2_bitsOf_67 : Dc cX2_bitsOf 67 1 68 (.f2i) := ⟨by decide +kernel, rfl⟩
theorem dX2_bitsOf_68 : Dc cX2_bitsOf 68 1 69 (.iadd) := ⟨by decide +kernel, rfl⟩
theorem dX2_bitsOf_69 : Dc cX2_bitsOf 69 1 70 (.ireturn) := ⟨by decide +kernel, rfl⟩
end
section
theorem dX3_init_0 : Dc cX3_init 0 1 1 (.aload_n 0) := ⟨by decide +kernel, rfl⟩
theorem dX3_init_1 : Dc cX3_init 1 3 4 (.invokespecial 1) := ⟨by decide +kernel, rfl⟩
theorem dX3_init_4 : Dc cX3_init 4 1 5 (.aload_n 0) := ⟨by decide +kernel, rfl⟩
theorem dX3_init_5 : Dc cX3_init 5 3 8 (.sipush 148) := ⟨by decide +kernel, rfl⟩
theorem dX3_init_8 : Dc cX3_init 8 2 10 (.newarray .int) := ⟨by decide +kernel, rfl⟩
theorem dX3_init_10 : Dc cX3_init 10 3 13 (.putfield 7) := ⟨by decide +kernel, rfl⟩
theorem dX3_init_13 : Dc cX3_init 13 1 14 (.aload_n 0) := ⟨by decide +kernel, rfl⟩
theorem dX3_init_14 : Dc cX3_init 14 3 17 (.sipush 740) := ⟨by decide +kernel, rfl⟩
theorem dX3_init_17 : Dc cX3_init 17 2 19 (.newarray .int) := ⟨by decide +kernel, rfl⟩
theorem dX3_init_19 : Dc cX3_init 19 3 22 (.putfield 13) := ⟨by decide +kernel, rfl⟩
theorem dX3_init_22 : Dc cX3_init 22 1 23 (.aload_n 0) := ⟨by decide +kernel, rfl⟩
theorem dX3_init_23 : Dc cX3_init 23 1 24 (.iconst 4) := ⟨by decide +kernel, rfl⟩
theorem dX3_init_24 : Dc cX3_init 24 2 26 (.newarray .int) := ⟨by decide +kernel, rfl⟩
theorem dX3_init_26 : Dc cX3_init 26 3 29 (.putfield 16) := ⟨by decide +kernel, rfl⟩
theorem dX3_init_29 : Dc cX3_init 29 1 30 (.aload_n 0) := ⟨by decide +kernel, rfl⟩
theorem dX3_init_30 : Dc cX3_init 30 2 32 (.bipush 10) := ⟨by decide +kernel, rfl⟩
theorem dX3_init_32 : Dc cX3_init 32 2 34 (.newarray .int) := ⟨by decide +kernel, rfl⟩
theorem dX3_init_34 : Dc cX3_init 34 3 37 (.putfield 19) := ⟨by decide +kernel, rfl⟩
theorem dX3_init_37 : Dc cX3_init 37 1 38 (.aload_n 0) := ⟨by decide +kernel, rfl⟩
theorem dX3_init_38 : Dc cX3_init 38 3 41 (.sipush 4096) := ⟨by decide +kernel, rfl⟩
theorem dX3_init_41 : Dc cX3_init 41 2 43 (.newarray .int) := ⟨by decide +kernel, rfl⟩
theorem dX3_init_43 : Dc cX3_init 43 3 46 (.putfield 22) := ⟨by decide +kernel, rfl⟩
theorem dX3_init_46 : Dc cX3_init 46 1 47 (.aload_n 0) := ⟨by decide +kernel, rfl⟩
theorem dX3_init_47 : Dc cX3_init 47 2 49 (.bipush 12) := ⟨by decide +kernel, rfl⟩
theorem dX3_init_49 : Dc cX3_init 49 2 51 (.newarray .int) := ⟨by decide +kernel, rfl⟩
theorem dX3_init_51 : Dc cX3_init 51 3 54 (.putfield 25) := ⟨by decide +kernel, rfl⟩
theorem dX3_init_54 : Dc cX3_init 54 1 55 (.aload_n 0) := ⟨by decide +kernel, rfl⟩
theorem dX3_init_55 : Dc cX3_init 55 2 57 (.bipush 10) := ⟨by decide +kernel, rfl⟩
theorem dX3_init_57 : Dc cX3_init 57 2 59 (.newarray .int) := ⟨by decide +kernel, rfl⟩
theorem dX3_init_59 : Dc cX3_init 59 3 62 (.putfield 28) := ⟨by decide +kernel, rfl⟩
theorem dX3_init_62 : Dc cX3_init 62 1 63 (.aload_n 0) := ⟨by decide +kernel, rfl⟩
theorem dX3_init_63 : Dc cX3_init 63 2 65 (.bipush 10) := ⟨by decide +kernel, rfl⟩
theorem dX3_init_65 : Dc cX3_init 65 2 67 (.newarray .int) := ⟨by decide +kernel, rfl⟩
theorem dX3_init_67 : Dc cX3_init 67 3 70 (.putfield 31) := ⟨by decide +kernel, rfl⟩
theorem dX3_init_70 : Dc cX3_init 70 1 71 (.aload_n 0) := ⟨by decide +kernel, rfl⟩
theorem dX3_init_71 : Dc cX3_init 71 3 74 (.getfield 7) := ⟨by decide +kernel, rfl⟩
theorem dX3_init_74 : Dc cX3_init 74 1 75 (.iconst 1) := ⟨by decide +kernel, rfl⟩
theorem dX3_init_75 : Dc cX3_init 75 1 76 (.iconst 2) := ⟨by decide +kernel, rfl⟩
theorem dX3_init_76 : Dc cX3_init 76 1 77 (.iastore) := ⟨by decide +kernel, rfl⟩
theorem dX3_init_77 : Dc cX3_init 77 1 78 (.aload_n 0) := ⟨by decide +kernel, rfl⟩
theorem dX3_init_78 : Dc cX3_init 78 3 81 (.getfield 7) := ⟨by decide +kernel, rfl⟩
theorem dX3_init_81 : Dc cX3_init 81 1 82 (.iconst 2) := ⟨by decide +kernel, rfl⟩
theorem dX3_init_82 : Dc cX3_init 82 1 83 (.iconst 1) := ⟨by decide +kernel, rfl⟩
theorem dX3_init_83 : Dc cX3_init 83 1 84 (.iastore) := ⟨by decide +kernel, rfl⟩
theorem dX3_init_84 : Dc cX3_init 84 1 85 (.return_) := ⟨by decide +kernel, rfl⟩
theorem dX3_within_0 : Dc cX3_within 0 1 1 (.iload_n 0) := ⟨by decide +kernel, rfl⟩
theorem dX3_within_1 : Dc cX3_within 1 1 2 (.iload_n 1) := ⟨by decide +kernel, rfl⟩
theorem dX3_within_2 : Dc cX3_within 2 3 5 (.if_icmp .lt 12) := ⟨by decide +kernel, rfl⟩
theorem dX3_within_5 : Dc cX3_within 5 1 6 (.iload_n 0) := ⟨by decide +kernel, rfl⟩
theorem dX3_within_6 : Dc cX3_within 6 1 7 (.iload_n 2) := ⟨by decide +kernel, rfl⟩
theorem dX3_within_7 : Dc cX3_within 7 3 10 (.if_icmp .gt 7) := ⟨by decide +kernel, rfl⟩
theorem dX3_within_10 : Dc cX3_within 10 1 11 (.iconst 1) := ⟨by decide +kernel, rfl⟩
theorem dX3_within_11 : Dc cX3_within 11 3 14 (.goto 4) := ⟨by decide +kernel, rfl⟩
theorem dX3_within_14 : Dc cX3_within 14 1 15 (.iconst 0) := ⟨by decide +kernel, rfl⟩
theorem dX3_within_15 : Dc cX3_within 15 1 16 (.ireturn) := ⟨by decide +kernel, rfl⟩
theorem dX3_ones_0 : Dc cX3_ones 0 1 1 (.iconst 0) := ⟨by decide +kernel, rfl⟩
theorem dX3_ones_1 : Dc cX3_ones 1 1 2 (.istore_n 1) := ⟨by decide +kernel, rfl⟩
theorem dX3_ones_2 : Dc cX3_ones 2 1 3 (.iconst 0) := ⟨by decide +kernel, rfl⟩
theorem dX3_ones_3 : Dc cX3_ones 3 1 4 (.istore_n 2) := ⟨by decide +kernel, rfl⟩
theorem dX3_ones_4 : Dc cX3_ones 4 1 5 (.iload_n 2) := ⟨by decide +kernel, rfl⟩
theorem dX3_ones_5 : Dc cX3_ones 5 2 7 (.bipush 12) := ⟨by decide +kernel, rfl⟩
theorem dX3_ones_7 : Dc cX3_ones 7 3 10 (.if_icmp .ge 17) := ⟨by decide +kernel, rfl⟩
theorem dX3_ones_10 : Dc cX3_ones 10 1 11 (.iload_n 1) := ⟨by decide +kernel, rfl⟩
theorem dX3_ones_11 : Dc cX3_ones 11 1 12 (.iload_n 0) := ⟨by decide +kernel, rfl⟩
theorem dX3_ones_12 : Dc cX3_ones 12 1 13 (.iload_n 2) := ⟨by decide +kernel, rfl⟩
theorem dX3_ones_13 : Dc cX3_ones 13 1 14 (.ishr) := ⟨by decide +kernel, rfl⟩
theorem dX3_ones_14 : Dc cX3_ones 14 1 15 (.iconst 1) := ⟨by decide +kernel, rfl⟩
theorem dX3_ones_15 : Dc cX3_ones 15 1 16 (.iand) := ⟨by decide +kernel, rfl⟩
theorem dX3_ones_16 : Dc cX3_ones 16 1 17 (.iadd) := ⟨by decide +kernel, rfl⟩
theorem dX3_ones_17 : Dc cX3_ones 17 1 18 (.istore_n 1) := ⟨by decide +kernel, rfl⟩
theorem dX3_ones_18 : Dc cX3_ones 18 3 21 (.iinc 2 1) := ⟨by decide +kernel, rfl⟩
theorem dX3_ones_21 : Dc cX3_ones 21 3 24 (.goto (-17)) := ⟨by decide +kernel, rfl⟩
theorem dX3_ones_24 : Dc cX3_ones 24 1 25 (.iload_n 1) := ⟨by decide +kernel, rfl⟩
theorem dX3_ones_25 : Dc cX3_ones 25 1 26 (.ireturn) := ⟨by decide +kernel, rfl⟩
theorem dX3_fails_0 : Dc cX3_fails 0 1 1 (.aload_n 0) := ⟨by decide +kernel, rfl⟩
theorem dX3_fails_1 : Dc cX3_fails 1 3 4 (.getfield 16) := ⟨by decide +kernel, rfl⟩
theorem dX3_fails_4 : Dc cX3_fails 4 2 6 (.bipush (-2)) := ⟨by decide +kernel, rfl⟩
theorem dX3_fails_6 : Dc cX3_fails 6 1 7 (.iload_n 1) := ⟨by decide +kernel, rfl⟩
theorem dX3_fails_7 : Dc cX3_fails 7 1 8 (.isub) := ⟨by decide +kernel, rfl⟩
theorem dX3_fails_8 : Dc cX3_fails 8 1 9 (.dup2) := ⟨by decide +kernel, rfl⟩
theorem dX3_fails_9 : Dc cX3_fails 9 1 10 (.iaload) := ⟨by decide +kernel, rfl⟩
theorem dX3_fails_10 : Dc cX3_fails 10 1 11 (.iconst 1) := ⟨by decide +kernel, rfl⟩
theorem dX3_fails_11 : Dc cX3_fails 11 1 12 (.iadd) := ⟨by decide +kernel, rfl⟩
theorem dX3_fails_12 : Dc cX3_fails 12 1 13 (.iastore) := ⟨by decide +kernel, rfl⟩
theorem dX3_fails_13 : Dc cX3_fails 13 1 14 (.iload_n 1) := ⟨by decide +kernel, rfl⟩
theorem dX3_fails_14 : Dc cX3_fails 14 1 15 (.ireturn) := ⟨by decide +kernel, rfl⟩
theorem dX3_isLine_0 : Dc cX3_isLine 0 1 1 (.iload_n 1) := ⟨by decide +kernel, rfl⟩
theorem dX3_isLine_1 : Dc cX3_isLine 1 1 2 (.iconst 0) := ⟨by decide +kernel, rfl⟩
theorem dX3_isLine_2 : Dc cX3_isLine 2 1 3 (.aload_n 0) := ⟨by decide +kernel, rfl⟩
theorem dX3_isLine_3 : Dc cX3_isLine 3 3 6 (.getfield 7) := ⟨by decide +kernel, rfl⟩
theorem dX3_isLine_6 : Dc cX3_isLine 6 1 7 (.iconst 0) := ⟨by decide +kernel, rfl⟩
theorem dX3_isLine_7 : Dc cX3_isLine 7 1 8 (.iaload) := ⟨by decide +kernel, rfl⟩
theorem dX3_isLine_8 : Dc cX3_isLine 8 1 9 (.iconst 1) := ⟨by decide +kernel, rfl⟩
theorem dX3_isLine_9 : Dc cX3_isLine 9 1 10 (.isub) := ⟨by decide +kernel, rfl⟩
theorem dX3_isLine_10 : Dc cX3_isLine 10 3 13 (.invokestatic 34) := ⟨by decide +kernel, rfl⟩
theorem dX3_isLine_13 : Dc cX3_isLine 13 1 14 (.ireturn) := ⟨by decide +kernel, rfl⟩
theorem dX3_isPrint_0 : Dc cX3_isPrint 0 1 1 (.iload_n 1) := ⟨by decide +kernel, rfl⟩
theorem dX3_isPrint_1 : Dc cX3_isPrint 1 1 2 (.iconst 0) := ⟨by decide +kernel, rfl⟩
theorem dX3_isPrint_2 : Dc cX3_isPrint 2 1 3 (.aload_n 0) := ⟨by decide +kernel, rfl⟩
theorem dX3_isPrint_3 : Dc cX3_isPrint 3 3 6 (.getfield 7) := ⟨by decide +kernel, rfl⟩
theorem dX3_isPrint_6 : Dc cX3_isPrint 6 1 7 (.iconst 4) := ⟨by decide +kernel, rfl⟩
theorem dX3_isPrint_7 : Dc cX3_isPrint 7 1 8 (.iaload) := ⟨by decide +kernel, rfl⟩
theorem dX3_isPrint_8 : Dc cX3_isPrint 8 1 9 (.iconst 1) := ⟨by decide +kernel, rfl⟩
theorem dX3_isPrint_9 : Dc cX3_isPrint 9 1 10 (.isub) := ⟨by decide +kernel, rfl⟩
theorem dX3_isPrint_10 : Dc cX3_isPrint 10 3 13 (.invokestatic 34) := ⟨by decide +kernel, rfl⟩
theorem dX3_isPrint_13 : Dc cX3_isPrint 13 1 14 (.ireturn) := ⟨by decide +kernel, rfl⟩
theorem dX3_saves_0 : Dc cX3_saves 0 1 1 (.aload_n 0) := ⟨by decide +kernel, rfl⟩
theorem dX3_saves_1 : Dc cX3_saves 1 3 4 (.getfield 38) := ⟨by decide +kernel, rfl⟩
theorem dX3_saves_4 : Dc cX3_saves 4 1 5 (.iconst 5) := ⟨by decide +kernel, rfl⟩
theorem dX3_saves_5 : Dc cX3_saves 5 3 8 (.if_icmp .ne 44) := ⟨by decide +kernel, rfl⟩
theorem dX3_saves_8 : Dc cX3_saves 8 1 9 (.iconst 0) := ⟨by decide +kernel, rfl⟩
theorem dX3_saves_9 : Dc cX3_saves 9 1 10 (.istore_n 1) := ⟨by decide +kernel, rfl⟩
theorem dX3_saves_10 : Dc cX3_saves 10 1 11 (.iload_n 1) := ⟨by decide +kernel, rfl⟩
theorem dX3_saves_11 : Dc cX3_saves 11 3 14 (.sipush 592) := ⟨by decide +kernel, rfl⟩
theorem dX3_saves_14 : Dc cX3_saves 14 3 17 (.if_icmp .ge 25) := ⟨by decide +kernel, rfl⟩
theorem dX3_saves_17 : Dc cX3_saves 17 1 18 (.aload_n 0) := ⟨by decide +kernel, rfl⟩
theorem dX3_saves_18 : Dc cX3_saves 18 3 21 (.getfield 13) := ⟨by decide +kernel, rfl⟩
theorem dX3_saves_21 : Dc cX3_saves 21 1 22 (.iload_n 1) := ⟨by decide +kernel, rfl⟩
theorem dX3_saves_22 : Dc cX3_saves 22 1 23 (.aload_n 0) := ⟨by decide +kernel, rfl⟩
theorem dX3_saves_23 : Dc cX3_saves 23 3 26 (.getfield 13) := ⟨by decide +kernel, rfl⟩
theorem dX3_saves_26 : Dc cX3_saves 26 1 27 (.iload_n 1) := ⟨by decide +kernel, rfl⟩
theorem dX3_saves_27 : Dc cX3_saves 27 3 30 (.sipush 148) := ⟨by decide +kernel, rfl⟩
theorem dX3_saves_30 : Dc cX3_saves 30 1 31 (.iadd) := ⟨by decide +kernel, rfl⟩
theorem dX3_saves_31 : Dc cX3_saves 31 1 32 (.iaload) := ⟨by decide +kernel, rfl⟩
theorem dX3_saves_32 : Dc cX3_saves 32 1 33 (.iastore) := ⟨by decide +kernel, rfl⟩
theorem dX3_saves_33 : Dc cX3_saves 33 3 36 (.iinc 1 1) := ⟨by decide +kernel, rfl⟩
theorem dX3_saves_36 : Dc cX3_saves 36 3 39 (.goto (-26)) := ⟨by decide +kernel, rfl⟩
theorem dX3_saves_39 : Dc cX3_saves 39 1 40 (.aload_n 0) := ⟨by decide +kernel, rfl⟩
theorem dX3_saves_40 : Dc cX3_saves 40 1 41 (.dup) := ⟨by decide +kernel, rfl⟩
theorem dX3_saves_41 : Dc cX3_saves 41 3 44 (.getfield 38) := ⟨by decide +kernel, rfl⟩
theorem dX3_saves_44 : Dc cX3_saves 44 1 45 (.iconst 1) := ⟨by decide +kernel, rfl⟩
theorem dX3_saves_45 : Dc cX3_saves 45 1 46 (.isub) := ⟨by decide +kernel, rfl⟩
theorem dX3_saves_46 : Dc cX3_saves 46 3 49 (.putfield 38) := ⟨by decide +kernel, rfl⟩
theorem dX3_saves_49 : Dc cX3_saves 49 1 50 (.iconst 0) := ⟨by decide +kernel, rfl⟩
theorem dX3_saves_50 : Dc cX3_saves 50 1 51 (.istore_n 1) := ⟨by decide +kernel, rfl⟩
theorem dX3_saves_51 : Dc cX3_saves 51 1 52 (.iload_n 1) := ⟨by decide +kernel, rfl⟩
theorem dX3_saves_52 : Dc cX3_saves 52 3 55 (.sipush 148) := ⟨by decide +kernel, rfl⟩
theorem dX3_saves_55 : Dc cX3_saves 55 3 58 (.if_icmp .ge 30) := ⟨by decide +kernel, rfl⟩
theorem dX3_saves_58 : Dc cX3_saves 58 1 59 (.aload_n 0) := ⟨by decide +kernel, rfl⟩
theorem dX3_saves_59 : Dc cX3_saves 59 3 62 (.getfield 13) := ⟨by decide +kernel, rfl⟩
theorem dX3_saves_62 : Dc cX3_saves 62 3 65 (.sipush 148) := ⟨by decide +kernel, rfl⟩
theorem dX3_saves_65 : Dc cX3_saves 65 1 66 (.aload_n 0) := ⟨by decide +kernel, rfl⟩
theorem dX3_saves_66 : Dc cX3_saves 66 3 69 (.getfield 38) := ⟨by decide +kernel, rfl⟩
theorem dX3_saves_69 : Dc cX3_saves 69 1 70 (.imul) := ⟨by decide +kernel, rfl⟩
theorem dX3_saves_70 : Dc cX3_saves 70 1 71 (.iload_n 1) := ⟨by decide +kernel, rfl⟩
theorem dX3_saves_71 : Dc cX3_saves 71 1 72 (.iadd) := ⟨by decide +kernel, rfl⟩
theorem dX3_saves_72 : Dc cX3_saves 72 1 73 (.aload_n 0) := ⟨by decide +kernel, rfl⟩
theorem dX3_saves_73 : Dc cX3_saves 73 3 76 (.getfield 7) := ⟨by decide +kernel, rfl⟩
theorem dX3_saves_76 : Dc cX3_saves 76 1 77 (.iload_n 1) := ⟨by decide +kernel, rfl⟩
theorem dX3_saves_77 : Dc cX3_saves 77 1 78 (.iaload) := ⟨by decide +kernel, rfl⟩
theorem dX3_saves_78 : Dc cX3_saves 78 1 79 (.iastore) := ⟨by decide +kernel, rfl⟩
theorem dX3_saves_79 : Dc cX3_saves 79 3 82 (.iinc 1 1) := ⟨by decide +kernel, rfl⟩
theorem dX3_saves_82 : Dc cX3_saves 82 3 85 (.goto (-31)) := ⟨by decide +kernel, rfl⟩
theorem dX3_saves_85 : Dc cX3_saves 85 1 86 (.aload_n 0) := ⟨by decide +kernel, rfl⟩
theorem dX3_saves_86 : Dc cX3_saves 86 1 87 (.dup) := ⟨by decide +kernel, rfl⟩
theorem dX3_saves_87 : Dc cX3_saves 87 3 90 (.getfield 38) := ⟨by decide +kernel, rfl⟩
theorem dX3_saves_90 : Dc cX3_saves 90 1 91 (.iconst 1) := ⟨by decide +kernel, rfl⟩
theorem dX3_saves_91 : Dc cX3_saves 91 1 92 (.iadd) := ⟨by decide +kernel, rfl⟩
theorem dX3_saves_92 : Dc cX3_saves 92 3 95 (.putfield 38) := ⟨by decide +kernel, rfl⟩
theorem dX3_saves_95 : Dc cX3_saves 95 1 96 (.return_) := ⟨by decide +kernel, rfl⟩
theorem dX3_undo_0 : Dc cX3_undo 0 1 1 (.aload_n 0) := ⟨by decide +kernel, rfl⟩
theorem dX3_undo_1 : Dc cX3_undo 1 3 4 (.getfield 38) := ⟨by decide +kernel, rfl⟩
theorem dX3_undo_4 : Dc cX3_undo 4 3 7 (.ifCond .ne 10) := ⟨by decide +kernel, rfl⟩
theorem dX3_undo_7 : Dc cX3_undo 7 1 8 (.aload_n 0) := ⟨by decide +kernel, rfl⟩
theorem dX3_undo_8 : Dc cX3_undo 8 2 10 (.bipush (-5)) := ⟨by decide +kernel, rfl⟩
theorem dX3_undo_10 : Dc cX3_undo 10 3 13 (.invokevirtual 42) := ⟨by decide +kernel, rfl⟩
theorem dX3_undo_13 : Dc cX3_undo 13 1 14 (.ireturn) := ⟨by decide +kernel, rfl⟩
theorem dX3_undo_14 : Dc cX3_undo 14 1 15 (.aload_n 0) := ⟨by decide +kernel, rfl⟩
theorem dX3_undo_15 : Dc cX3_undo 15 1 16 (.dup) := ⟨by decide +kernel, rfl⟩
theorem dX3_undo_16 : Dc cX3_undo 16 3 19 (.getfield 38) := ⟨by decide +kernel, rfl⟩
theorem dX3_undo_19 : Dc cX3_undo 19 1 20 (.iconst 1) := ⟨by decide +kernel, rfl⟩
theorem dX3_undo_20 : Dc cX3_undo 20 1 21 (.isub) := ⟨by decide +kernel, rfl⟩
theorem dX3_undo_21 : Dc cX3_undo 21 3 24 (.putfield 38) := ⟨by decide +kernel, rfl⟩
theorem dX3_undo_24 : Dc cX3_undo 24 1 25 (.iconst 0) := ⟨by decide +kernel, rfl⟩
theorem dX3_undo_25 : Dc cX3_undo 25 1 26 (.istore_n 1) := ⟨by decide +kernel, rfl⟩
theorem dX3_undo_26 : Dc cX3_undo 26 1 27 (.iload_n 1) := ⟨by decide +kernel, rfl⟩
theorem dX3_undo_27 : Dc cX3_undo 27 3 30 (.sipush 148) := ⟨by decide +kernel, rfl⟩
theorem dX3_undo_30 : Dc cX3_undo 30 3 33 (.if_icmp .ge 30) := ⟨by decide +kernel, rfl⟩
theorem dX3_undo_33 : Dc cX3_undo 33 1 34 (.aload_n 0) := ⟨by decide +kernel, rfl⟩
theorem dX3_undo_34 : Dc cX3_undo 34 3 37 (.getfield 7) := ⟨by decide +kernel, rfl⟩
theorem dX3_undo_37 : Dc cX3_undo 37 1 38 (.iload_n 1) := ⟨by decide +kernel, rfl⟩
theorem dX3_undo_38 : Dc cX3_undo 38 1 39 (.aload_n 0) := ⟨by decide +kernel, rfl⟩
theorem dX3_undo_39 : Dc cX3_undo 39 3 42 (.getfield 13) := ⟨by decide +kernel, rfl⟩
theorem dX3_undo_42 : Dc cX3_undo 42 3 45 (.sipush 148) := ⟨by decide +kernel, rfl⟩
theorem dX3_undo_45 : Dc cX3_undo 45 1 46 (.aload_n 0) := ⟨by decide +kernel, rfl⟩
theorem dX3_undo_46 : Dc cX3_undo 46 3 49 (.getfield 38) := ⟨by decide +kernel, rfl⟩
theorem dX3_undo_49 : Dc cX3_undo 49 1 50 (.imul) := ⟨by decide +kernel, rfl⟩
theorem dX3_undo_50 : Dc cX3_undo 50 1 51 (.iload_n 1) := ⟨by decide +kernel, rfl⟩
theorem dX3_undo_51 : Dc cX3_undo 51 1 52 (.iadd) := ⟨by decide +kernel, rfl⟩
theorem dX3_undo_52 : Dc cX3_undo 52 1 53 (.iaload) := ⟨by decide +kernel, rfl⟩
theorem dX3_undo_53 : Dc cX3_undo 53 1 54 (.iastore) := ⟨by decide +kernel, rfl⟩
theorem dX3_undo_54 : Dc cX3_undo 54 3 57 (.iinc 1 1) := ⟨by decide +kernel, rfl⟩
theorem dX3_undo_57 : Dc cX3_undo 57 3 60 (.goto (-31)) := ⟨by decide +kernel, rfl⟩
theorem dX3_undo_60 : Dc cX3_undo 60 1 61 (.aload_n 0) := ⟨by decide +kernel, rfl⟩
theorem dX3_undo_61 : Dc cX3_undo 61 3 64 (.getfield 38) := ⟨by decide +kernel, rfl⟩
theorem dX3_undo_64 : Dc cX3_undo 64 1 65 (.ireturn) := ⟨by decide +kernel, rfl⟩
theorem dX3_draw_0 : Dc cX3_draw 0 1 1 (.aload_n 0) := ⟨by decide +kernel, rfl⟩
theorem dX3_draw_1 : Dc cX3_draw 1 3 4 (.getfield 7) := ⟨by decide +kernel, rfl⟩
theorem dX3_draw_4 : Dc cX3_draw 4 1 5 (.iconst 0) := ⟨by decide +kernel, rfl⟩
theorem dX3_draw_5 : Dc cX3_draw 5 1 6 (.iaload) := ⟨by decide +kernel, rfl⟩
theorem dX3_draw_6 : Dc cX3_draw 6 2 8 (.bipush 10) := ⟨by decide +kernel, rfl⟩
theorem dX3_draw_8 : Dc cX3_draw 8 3 11 (.if_icmp .ne 10) := ⟨by decide +kernel, rfl⟩
theorem dX3_draw_11 : Dc cX3_draw 11 1 12 (.aload_n 0) := ⟨by decide +kernel, rfl⟩
theorem dX3_draw_12 : Dc cX3_draw 12 2 14 (.bipush (-4)) := ⟨by decide +kernel, rfl⟩
theorem dX3_draw_14 : Dc cX3_draw 14 3 17 (.invokevirtual 42) := ⟨by decide +kernel, rfl⟩
theorem dX3_draw_17 : Dc cX3_draw 17 1 18 (.ireturn) := ⟨by decide +kernel, rfl⟩
theorem dX3_draw_18 : Dc cX3_draw 18 1 19 (.aload_n 0) := ⟨by decide +kernel, rfl⟩
theorem dX3_draw_19 : Dc cX3_draw 19 3 22 (.invokevirtual 46) := ⟨by decide +kernel, rfl⟩
theorem dX3_draw_22 : Dc cX3_draw 22 1 23 (.aload_n 0) := ⟨by decide +kernel, rfl⟩
theorem dX3_draw_23 : Dc cX3_draw 23 3 26 (.getfield 7) := ⟨by decide +kernel, rfl⟩
theorem dX3_draw_26 : Dc cX3_draw 26 2 28 (.bipush 6) := ⟨by decide +kernel, rfl⟩
theorem dX3_draw_28 : Dc cX3_draw 28 1 29 (.aload_n 0) := ⟨by decide +kernel, rfl⟩
theorem dX3_draw_29 : Dc cX3_draw 29 3 32 (.getfield 7) := ⟨by decide +kernel, rfl⟩
theorem dX3_draw_32 : Dc cX3_draw 32 1 33 (.iconst 0) := ⟨by decide +kernel, rfl⟩
theorem dX3_draw_33 : Dc cX3_draw 33 1 34 (.iaload) := ⟨by decide +kernel, rfl⟩
theorem dX3_draw_34 : Dc cX3_draw 34 1 35 (.iadd) := ⟨by decide +kernel, rfl⟩
theorem dX3_draw_35 : Dc cX3_draw 35 1 36 (.iconst 0) := ⟨by decide +kernel, rfl⟩
theorem dX3_draw_36 : Dc cX3_draw 36 1 37 (.iastore) := ⟨by decide +kernel, rfl⟩
theorem dX3_draw_37 : Dc cX3_draw 37 1 38 (.aload_n 0) := ⟨by decide +kernel, rfl⟩
theorem dX3_draw_38 : Dc cX3_draw 38 3 41 (.getfield 7) := ⟨by decide +kernel, rfl⟩
theorem dX3_draw_41 : Dc cX3_draw 41 1 42 (.iconst 0) := ⟨by decide +kernel, rfl⟩
theorem dX3_draw_42 : Dc cX3_draw 42 1 43 (.dup2) := ⟨by decide +kernel, rfl⟩
theorem dX3_draw_43 : Dc cX3_draw 43 1 44 (.iaload) := ⟨by decide +kernel, rfl⟩
theorem dX3_draw_44 : Dc cX3_draw 44 1 45 (.iconst 1) := ⟨by decide +kernel, rfl⟩
theorem dX3_draw_45 : Dc cX3_draw 45 1 46 (.iadd) := ⟨by decide +kernel, rfl⟩
theorem dX3_draw_46 : Dc cX3_draw 46 1 47 (.iastore) := ⟨by decide +kernel, rfl⟩
theorem dX3_draw_47 : Dc cX3_draw 47 1 48 (.aload_n 0) := ⟨by decide +kernel, rfl⟩
theorem dX3_draw_48 : Dc cX3_draw 48 3 51 (.getfield 7) := ⟨by decide +kernel, rfl⟩
theorem dX3_draw_51 : Dc cX3_draw 51 1 52 (.iconst 3) := ⟨by decide +kernel, rfl⟩
theorem dX3_draw_52 : Dc cX3_draw 52 1 53 (.iconst 1) := ⟨by decide +kernel, rfl⟩
theorem dX3_draw_53 : Dc cX3_draw 53 1 54 (.iastore) := ⟨by decide +kernel, rfl⟩
theorem dX3_draw_54 : Dc cX3_draw 54 1 55 (.aload_n 0) := ⟨by decide +kernel, rfl⟩
theorem dX3_draw_55 : Dc cX3_draw 55 3 58 (.getfield 7) := ⟨by decide +kernel, rfl⟩
theorem dX3_draw_58 : Dc cX3_draw 58 1 59 (.iconst 0) := ⟨by decide +kernel, rfl⟩
theorem dX3_draw_59 : Dc cX3_draw 59 1 60 (.iaload) := ⟨by decide +kernel, rfl⟩
theorem dX3_draw_60 : Dc cX3_draw 60 1 61 (.iconst 1) := ⟨by decide +kernel, rfl⟩
theorem dX3_draw_61 : Dc cX3_draw 61 1 62 (.isub) := ⟨by decide +kernel, rfl⟩
theorem dX3_draw_62 : Dc cX3_draw 62 1 63 (.ireturn) := ⟨by decide +kernel, rfl⟩
theorem dX3_setStrength_0 : Dc cX3_setStrength 0 1 1 (.iload_n 1) := ⟨by decide +kernel, rfl⟩
theorem dX3_setStrength_1 : Dc cX3_setStrength 1 1 2 (.iconst 1) := ⟨by decide +kernel, rfl⟩
theorem dX3_setStrength_2 : Dc cX3_setStrength 2 1 3 (.iconst 5) := ⟨by decide +kernel, rfl⟩
theorem dX3_setStrength_3 : Dc cX3_setStrength 3 3 6 (.invokestatic 34) := ⟨by decide +kernel, rfl⟩
theorem dX3_setStrength_6 : Dc cX3_setStrength 6 3 9 (.ifCond .ne 10) := ⟨by decide +kernel, rfl⟩
theorem dX3_setStrength_9 : Dc cX3_setStrength 9 1 10 (.aload_n 0) := ⟨by decide +kernel, rfl⟩
theorem dX3_setStrength_10 : Dc cX3_setStrength 10 2 12 (.bipush (-2)) := ⟨by decide +kernel, rfl⟩
theorem dX3_setStrength_12 : Dc cX3_setStrength 12 3 15 (.invokevirtual 42) := ⟨by decide +kernel, rfl⟩
theorem dX3_setStrength_15 : Dc cX3_setStrength 15 1 16 (.ireturn) := ⟨by decide +kernel, rfl⟩
theorem dX3_setStrength_16 : Dc cX3_setStrength 16 1 17 (.aload_n 0) := ⟨by decide +kernel, rfl⟩
theorem dX3_setStrength_17 : Dc cX3_setStrength 17 3 20 (.invokevirtual 46) := ⟨by decide +kernel, rfl⟩
theorem dX3_setStrength_20 : Dc cX3_setStrength 20 1 21 (.aload_n 0) := ⟨by decide +kernel, rfl⟩
theorem dX3_setStrength_21 : Dc cX3_setStrength 21 3 24 (.getfield 7) := ⟨by decide +kernel, rfl⟩
theorem dX3_setStrength_24 : Dc cX3_setStrength 24 1 25 (.iconst 1) := ⟨by decide +kernel, rfl⟩
theorem dX3_setStrength_25 : Dc cX3_setStrength 25 1 26 (.iaload) := ⟨by decide +kernel, rfl⟩
theorem dX3_setStrength_26 : Dc cX3_setStrength 26 1 27 (.istore_n 2) := ⟨by decide +kernel, rfl⟩
theorem dX3_setStrength_27 : Dc cX3_setStrength 27 1 28 (.aload_n 0) := ⟨by decide +kernel, rfl⟩
theorem dX3_setStrength_28 : Dc cX3_setStrength 28 3 31 (.getfield 7) := ⟨by decide +kernel, rfl⟩
theorem dX3_setStrength_31 : Dc cX3_setStrength 31 1 32 (.iconst 1) := ⟨by decide +kernel, rfl⟩
theorem dX3_setStrength_32 : Dc cX3_setStrength 32 1 33 (.iload_n 1) := ⟨by decide +kernel, rfl⟩
theorem dX3_setStrength_33 : Dc cX3_setStrength 33 1 34 (.iastore) := ⟨by decide +kernel, rfl⟩
theorem dX3_setStrength_34 : Dc cX3_setStrength 34 1 35 (.iload_n 2) := ⟨by decide +kernel, rfl⟩
theorem dX3_setStrength_35 : Dc cX3_setStrength 35 1 36 (.ireturn) := ⟨by decide +kernel, rfl⟩
theorem dX3_dip_0 : Dc cX3_dip 0 1 1 (.iload_n 1) := ⟨by decide +kernel, rfl⟩
theorem dX3_dip_1 : Dc cX3_dip 1 1 2 (.iconst 0) := ⟨by decide +kernel, rfl⟩
theorem dX3_dip_2 : Dc cX3_dip 2 2 4 (.bipush 99) := ⟨by decide +kernel, rfl⟩
theorem dX3_dip_4 : Dc cX3_dip 4 3 7 (.invokestatic 34) := ⟨by decide +kernel, rfl⟩
theorem dX3_dip_7 : Dc cX3_dip 7 3 10 (.ifCond .ne 10) := ⟨by decide +kernel, rfl⟩
theorem dX3_dip_10 : Dc cX3_dip 10 1 11 (.aload_n 0) := ⟨by decide +kernel, rfl⟩
theorem dX3_dip_11 : Dc cX3_dip 11 2 13 (.bipush (-2)) := ⟨by decide +kernel, rfl⟩
theorem dX3_dip_13 : Dc cX3_dip 13 3 16 (.invokevirtual 42) := ⟨by decide +kernel, rfl⟩
theorem dX3_dip_16 : Dc cX3_dip 16 1 17 (.ireturn) := ⟨by decide +kernel, rfl⟩
theorem dX3_dip_17 : Dc cX3_dip 17 1 18 (.aload_n 0) := ⟨by decide +kernel, rfl⟩
theorem dX3_dip_18 : Dc cX3_dip 18 3 21 (.invokevirtual 46) := ⟨by decide +kernel, rfl⟩
theorem dX3_dip_21 : Dc cX3_dip 21 1 22 (.iconst 0) := ⟨by decide +kernel, rfl⟩
theorem dX3_dip_22 : Dc cX3_dip 22 1 23 (.istore_n 2) := ⟨by decide +kernel, rfl⟩
theorem dX3_dip_23 : Dc cX3_dip 23 1 24 (.iconst 0) := ⟨by decide +kernel, rfl⟩
theorem dX3_dip_24 : Dc cX3_dip 24 1 25 (.istore_n 3) := ⟨by decide +kernel, rfl⟩
theorem dX3_dip_25 : Dc cX3_dip 25 1 26 (.iload_n 3) := ⟨by decide +kernel, rfl⟩
theorem dX3_dip_26 : Dc cX3_dip 26 1 27 (.aload_n 0) := ⟨by decide +kernel, rfl⟩
theorem dX3_dip_27 : Dc cX3_dip 27 3 30 (.getfield 7) := ⟨by decide +kernel, rfl⟩
theorem dX3_dip_30 : Dc cX3_dip 30 1 31 (.iconst 0) := ⟨by decide +kernel, rfl⟩
theorem dX3_dip_31 : Dc cX3_dip 31 1 32 (.iaload) := ⟨by decide +kernel, rfl⟩
theorem dX3_dip_32 : Dc cX3_dip 32 3 35 (.if_icmp .ge 91) := ⟨by decide +kernel, rfl⟩
theorem dX3_dip_35 : Dc cX3_dip 35 1 36 (.aload_n 0) := ⟨by decide +kernel, rfl⟩
theorem dX3_dip_36 : Dc cX3_dip 36 3 39 (.getfield 7) := ⟨by decide +kernel, rfl⟩
theorem dX3_dip_39 : Dc cX3_dip 39 2 41 (.bipush 6) := ⟨by decide +kernel, rfl⟩
theorem dX3_dip_41 : Dc cX3_dip 41 1 42 (.iload_n 3) := ⟨by decide +kernel, rfl⟩
theorem dX3_dip_42 : Dc cX3_dip 42 1 43 (.iadd) := ⟨by decide +kernel, rfl⟩
theorem dX3_dip_43 : Dc cX3_dip 43 1 44 (.iaload) := ⟨by decide +kernel, rfl⟩
theorem dX3_dip_44 : Dc cX3_dip 44 1 45 (.aload_n 0) := ⟨by decide +kernel, rfl⟩
theorem dX3_dip_45 : Dc cX3_dip 45 3 48 (.getfield 7) := ⟨by decide +kernel, rfl⟩
theorem dX3_dip_48 : Dc cX3_dip 48 1 49 (.iconst 5) := ⟨by decide +kernel, rfl⟩
theorem dX3_dip_49 : Dc cX3_dip 49 1 50 (.iaload) := ⟨by decide +kernel, rfl⟩
theorem dX3_dip_50 : Dc cX3_dip 50 1 51 (.iload_n 3) := ⟨by decide +kernel, rfl⟩
theorem dX3_dip_51 : Dc cX3_dip 51 1 52 (.ishr) := ⟨by decide +kernel, rfl⟩
theorem dX3_dip_52 : Dc cX3_dip 52 1 53 (.iconst 1) := ⟨by decide +kernel, rfl⟩
theorem dX3_dip_53 : Dc cX3_dip 53 1 54 (.iand) := ⟨by decide +kernel, rfl⟩
theorem dX3_dip_54 : Dc cX3_dip 54 1 55 (.iconst 1) := ⟨by decide +kernel, rfl⟩
theorem dX3_dip_55 : Dc cX3_dip 55 1 56 (.ixor) := ⟨by decide +kernel, rfl⟩
theorem dX3_dip_56 : Dc cX3_dip 56 1 57 (.aload_n 0) := ⟨by decide +kernel, rfl⟩
theorem dX3_dip_57 : Dc cX3_dip 57 3 60 (.getfield 7) := ⟨by decide +kernel, rfl⟩
theorem dX3_dip_60 : Dc cX3_dip 60 1 61 (.iconst 1) := ⟨by decide +kernel, rfl⟩
theorem dX3_dip_61 : Dc cX3_dip 61 1 62 (.iaload) := ⟨by decide +kernel, rfl⟩
theorem dX3_dip_62 : Dc cX3_dip 62 1 63 (.imul) := ⟨by decide +kernel, rfl⟩
theorem dX3_dip_63 : Dc cX3_dip 63 1 64 (.iload_n 1) := ⟨by decide +kernel, rfl⟩
theorem dX3_dip_64 : Dc cX3_dip 64 1 65 (.imul) := ⟨by decide +kernel, rfl⟩
theorem dX3_dip_65 : Dc cX3_dip 65 1 66 (.iadd) := ⟨by decide +kernel, rfl⟩
theorem dX3_dip_66 : Dc cX3_dip 66 2 68 (.istore 4) := ⟨by decide +kernel, rfl⟩
theorem dX3_dip_68 : Dc cX3_dip 68 2 70 (.iload 4) := ⟨by decide +kernel, rfl⟩
theorem dX3_dip_70 : Dc cX3_dip 70 2 72 (.bipush 99) := ⟨by decide +kernel, rfl⟩
theorem dX3_dip_72 : Dc cX3_dip 72 3 75 (.if_icmp .le 8) := ⟨by decide +kernel, rfl⟩
theorem dX3_dip_75 : Dc cX3_dip 75 2 77 (.bipush 99) := ⟨by decide +kernel, rfl⟩
theorem dX3_dip_77 : Dc cX3_dip 77 3 80 (.goto 5) := ⟨by decide +kernel, rfl⟩
theorem dX3_dip_80 : Dc cX3_dip 80 2 82 (.iload 4) := ⟨by decide +kernel, rfl⟩
theorem dX3_dip_82 : Dc cX3_dip 82 2 84 (.istore 4) := ⟨by decide +kernel, rfl⟩
theorem dX3_dip_84 : Dc cX3_dip 84 1 85 (.iload_n 2) := ⟨by decide +kernel, rfl⟩
theorem dX3_dip_85 : Dc cX3_dip 85 2 87 (.iload 4) := ⟨by decide +kernel, rfl⟩
theorem dX3_dip_87 : Dc cX3_dip 87 1 88 (.aload_n 0) := ⟨by decide +kernel, rfl⟩
theorem dX3_dip_88 : Dc cX3_dip 88 3 91 (.getfield 7) := ⟨by decide +kernel, rfl⟩
theorem dX3_dip_91 : Dc cX3_dip 91 2 93 (.bipush 6) := ⟨by decide +kernel, rfl⟩
theorem dX3_dip_93 : Dc cX3_dip 93 1 94 (.iload_n 3) := ⟨by decide +kernel, rfl⟩
theorem dX3_dip_94 : Dc cX3_dip 94 1 95 (.iadd) := ⟨by decide +kernel, rfl⟩
theorem dX3_dip_95 : Dc cX3_dip 95 1 96 (.iaload) := ⟨by decide +kernel, rfl⟩
theorem dX3_dip_96 : Dc cX3_dip 96 3 99 (.if_icmp .le 7) := ⟨by decide +kernel, rfl⟩
theorem dX3_dip_99 : Dc cX3_dip 99 1 100 (.iconst 1) := ⟨by decide +kernel, rfl⟩
theorem dX3_dip_100 : Dc cX3_dip 100 3 103 (.goto 4) := ⟨by decide +kernel, rfl⟩
theorem dX3_dip_103 : Dc cX3_dip 103 1 104 (.iconst 0) := ⟨by decide +kernel, rfl⟩
theorem dX3_dip_104 : Dc cX3_dip 104 1 105 (.iadd) := ⟨by decide +kernel, rfl⟩
theorem dX3_dip_105 : Dc cX3_dip 105 1 106 (.istore_n 2) := ⟨by decide +kernel, rfl⟩
theorem dX3_dip_106 : Dc cX3_dip 106 1 107 (.aload_n 0) := ⟨by decide +kernel, rfl⟩
theorem dX3_dip_107 : Dc cX3_dip 107 3 110 (.getfield 7) := ⟨by decide +kernel, rfl⟩
theorem dX3_dip_110 : Dc cX3_dip 110 2 112 (.bipush 6) := ⟨by decide +kernel, rfl⟩
theorem dX3_dip_112 : Dc cX3_dip 112 1 113 (.iload_n 3) := ⟨by decide +kernel, rfl⟩
theorem dX3_dip_113 : Dc cX3_dip 113 1 114 (.iadd) := ⟨by decide +kernel, rfl⟩
theorem dX3_dip_114 : Dc cX3_dip 114 2 116 (.iload 4) := ⟨by decide +kernel, rfl⟩
theorem dX3_dip_116 : Dc cX3_dip 116 1 117 (.iastore) := ⟨by decide +kernel, rfl⟩
theorem dX3_dip_117 : Dc cX3_dip 117 3 120 (.iinc 3 1) := ⟨by decide +kernel, rfl⟩
theorem dX3_dip_120 : Dc cX3_dip 120 3 123 (.goto (-95)) := ⟨by decide +kernel, rfl⟩
theorem dX3_dip_123 : Dc cX3_dip 123 1 124 (.aload_n 0) := ⟨by decide +kernel, rfl⟩
theorem dX3_dip_124 : Dc cX3_dip 124 3 127 (.getfield 7) := ⟨by decide +kernel, rfl⟩
theorem dX3_dip_127 : Dc cX3_dip 127 1 128 (.iconst 3) := ⟨by decide +kernel, rfl⟩
theorem dX3_dip_128 : Dc cX3_dip 128 1 129 (.iload_n 1) := ⟨by decide +kernel, rfl⟩
theorem dX3_dip_129 : Dc cX3_dip 129 3 132 (.ifCond .le 7) := ⟨by decide +kernel, rfl⟩
theorem dX3_dip_132 : Dc cX3_dip 132 1 133 (.iconst 1) := ⟨by decide +kernel, rfl⟩
theorem dX3_dip_133 : Dc cX3_dip 133 3 136 (.goto 9) := ⟨by decide +kernel, rfl⟩
theorem dX3_dip_136 : Dc cX3_dip 136 1 137 (.aload_n 0) := ⟨by decide +kernel, rfl⟩
theorem dX3_dip_137 : Dc cX3_dip 137 3 140 (.getfield 7) := ⟨by decide +kernel, rfl⟩
theorem dX3_dip_140 : Dc cX3_dip 140 1 141 (.iconst 3) := ⟨by decide +kernel, rfl⟩
theorem dX3_dip_141 : Dc cX3_dip 141 1 142 (.iaload) := ⟨by decide +kernel, rfl⟩
theorem dX3_dip_142 : Dc cX3_dip 142 1 143 (.iastore) := ⟨by decide +kernel, rfl⟩
theorem dX3_dip_143 : Dc cX3_dip 143 1 144 (.iload_n 2) := ⟨by decide +kernel, rfl⟩
theorem dX3_dip_144 : Dc cX3_dip 144 1 145 (.ireturn) := ⟨by decide +kernel, rfl⟩
theorem dX3_varnish_0 : Dc cX3_varnish 0 1 1 (.iload_n 1) := ⟨by decide +kernel, rfl⟩
theorem dX3_varnish_1 : Dc cX3_varnish 1 1 2 (.iconst 0) := ⟨by decide +kernel, rfl⟩
theorem dX3_varnish_2 : Dc cX3_varnish 2 1 3 (.iconst 1) := ⟨by decide +kernel, rfl⟩
theorem dX3_varnish_3 : Dc cX3_varnish 3 1 4 (.aload_n 0) := ⟨by decide +kernel, rfl⟩
theorem dX3_varnish_4 : Dc cX3_varnish 4 3 7 (.getfield 7) := ⟨by decide +kernel, rfl⟩
theorem dX3_varnish_7 : Dc cX3_varnish 7 1 8 (.iconst 0) := ⟨by decide +kernel, rfl⟩
theorem dX3_varnish_8 : Dc cX3_varnish 8 1 9 (.iaload) := ⟨by decide +kernel, rfl⟩
theorem dX3_varnish_9 : Dc cX3_varnish 9 1 10 (.ishl) := ⟨by decide +kernel, rfl⟩
theorem dX3_varnish_10 : Dc cX3_varnish 10 1 11 (.iconst 1) := ⟨by decide +kernel, rfl⟩
theorem dX3_varnish_11 : Dc cX3_varnish 11 1 12 (.isub) := ⟨by decide +kernel, rfl⟩
theorem dX3_varnish_12 : Dc cX3_varnish 12 3 15 (.invokestatic 34) := ⟨by decide +kernel, rfl⟩
theorem dX3_varnish_15 : Dc cX3_varnish 15 3 18 (.ifCond .ne 10) := ⟨by decide +kernel, rfl⟩
theorem dX3_varnish_18 : Dc cX3_varnish 18 1 19 (.aload_n 0) := ⟨by decide +kernel, rfl⟩
theorem dX3_varnish_19 : Dc cX3_varnish 19 2 21 (.bipush (-2)) := ⟨by decide +kernel, rfl⟩
theorem dX3_varnish_21 : Dc cX3_varnish 21 3 24 (.invokevirtual 42) := ⟨by decide +kernel, rfl⟩
theorem dX3_varnish_24 : Dc cX3_varnish 24 1 25 (.ireturn) := ⟨by decide +kernel, rfl⟩
theorem dX3_varnish_25 : Dc cX3_varnish 25 1 26 (.aload_n 0) := ⟨by decide +kernel, rfl⟩
theorem dX3_varnish_26 : Dc cX3_varnish 26 3 29 (.invokevirtual 46) := ⟨by decide +kernel, rfl⟩
theorem dX3_varnish_29 : Dc cX3_varnish 29 1 30 (.aload_n 0) := ⟨by decide +kernel, rfl⟩
theorem dX3_varnish_30 : Dc cX3_varnish 30 3 33 (.getfield 7) := ⟨by decide +kernel, rfl⟩
theorem dX3_varnish_33 : Dc cX3_varnish 33 1 34 (.iconst 5) := ⟨by decide +kernel, rfl⟩
theorem dX3_varnish_34 : Dc cX3_varnish 34 1 35 (.dup2) := ⟨by decide +kernel, rfl⟩
theorem dX3_varnish_35 : Dc cX3_varnish 35 1 36 (.iaload) := ⟨by decide +kernel, rfl⟩
theorem dX3_varnish_36 : Dc cX3_varnish 36 1 37 (.iload_n 1) := ⟨by decide +kernel, rfl⟩
theorem dX3_varnish_37 : Dc cX3_varnish 37 1 38 (.ior) := ⟨by decide +kernel, rfl⟩
theorem dX3_varnish_38 : Dc cX3_varnish 38 1 39 (.iastore) := ⟨by decide +kernel, rfl⟩
theorem dX3_varnish_39 : Dc cX3_varnish 39 1 40 (.aload_n 0) := ⟨by decide +kernel, rfl⟩
theorem dX3_varnish_40 : Dc cX3_varnish 40 3 43 (.getfield 7) := ⟨by decide +kernel, rfl⟩
theorem dX3_varnish_43 : Dc cX3_varnish 43 1 44 (.iconst 5) := ⟨by decide +kernel, rfl⟩
theorem dX3_varnish_44 : Dc cX3_varnish 44 1 45 (.iaload) := ⟨by decide +kernel, rfl⟩
theorem dX3_varnish_45 : Dc cX3_varnish 45 3 48 (.invokestatic 49) := ⟨by decide +kernel, rfl⟩
theorem dX3_varnish_48 : Dc cX3_varnish 48 1 49 (.ireturn) := ⟨by decide +kernel, rfl⟩
theorem dX3_clean_0 : Dc cX3_clean 0 1 1 (.aload_n 0) := ⟨by decide +kernel, rfl⟩
theorem dX3_clean_1 : Dc cX3_clean 1 3 4 (.invokevirtual 46) := ⟨by decide +kernel, rfl⟩
theorem dX3_clean_4 : Dc cX3_clean 4 1 5 (.aload_n 0) := ⟨by decide +kernel, rfl⟩
theorem dX3_clean_5 : Dc cX3_clean 5 3 8 (.getfield 7) := ⟨by decide +kernel, rfl⟩
theorem dX3_clean_8 : Dc cX3_clean 8 1 9 (.iconst 5) := ⟨by decide +kernel, rfl⟩
theorem dX3_clean_9 : Dc cX3_clean 9 1 10 (.iaload) := ⟨by decide +kernel, rfl⟩
theorem dX3_clean_10 : Dc cX3_clean 10 3 13 (.invokestatic 49) := ⟨by decide +kernel, rfl⟩
theorem dX3_clean_13 : Dc cX3_clean 13 1 14 (.istore_n 1) := ⟨by decide +kernel, rfl⟩
theorem dX3_clean_14 : Dc cX3_clean 14 1 15 (.aload_n 0) := ⟨by decide +kernel, rfl⟩
theorem dX3_clean_15 : Dc cX3_clean 15 3 18 (.getfield 7) := ⟨by decide +kernel, rfl⟩
theorem dX3_clean_18 : Dc cX3_clean 18 1 19 (.iconst 5) := ⟨by decide +kernel, rfl⟩
theorem dX3_clean_19 : Dc cX3_clean 19 1 20 (.iconst 0) := ⟨by decide +kernel, rfl⟩
theorem dX3_clean_20 : Dc cX3_clean 20 1 21 (.iastore) := ⟨by decide +kernel, rfl⟩
theorem dX3_clean_21 : Dc cX3_clean 21 1 22 (.iload_n 1) := ⟨by decide +kernel, rfl⟩
theorem dX3_clean_22 : Dc cX3_clean 22 1 23 (.ireturn) := ⟨by decide +kernel, rfl⟩
theorem dX3_burnish_0 : Dc cX3_burnish 0 1 1 (.aload_n 0) := ⟨by decide +kernel, rfl⟩
theorem dX3_burnish_1 : Dc cX3_burnish 1 1 2 (.iload_n 1) := ⟨by decide +kernel, rfl⟩
theorem dX3_burnish_2 : Dc cX3_burnish 2 3 5 (.invokevirtual 52) := ⟨by decide +kernel, rfl⟩
theorem dX3_burnish_5 : Dc cX3_burnish 5 3 8 (.ifCond .eq 13) := ⟨by decide +kernel, rfl⟩
theorem dX3_burnish_8 : Dc cX3_burnish 8 1 9 (.iload_n 2) := ⟨by decide +kernel, rfl⟩
theorem dX3_burnish_9 : Dc cX3_burnish 9 1 10 (.iconst 1) := ⟨by decide +kernel, rfl⟩
theorem dX3_burnish_10 : Dc cX3_burnish 10 2 12 (.bipush 99) := ⟨by decide +kernel, rfl⟩
theorem dX3_burnish_12 : Dc cX3_burnish 12 3 15 (.invokestatic 34) := ⟨by decide +kernel, rfl⟩
theorem dX3_burnish_15 : Dc cX3_burnish 15 3 18 (.ifCond .ne 10) := ⟨by decide +kernel, rfl⟩
theorem dX3_burnish_18 : Dc cX3_burnish 18 1 19 (.aload_n 0) := ⟨by decide +kernel, rfl⟩
theorem dX3_burnish_19 : Dc cX3_burnish 19 2 21 (.bipush (-2)) := ⟨by decide +kernel, rfl⟩
theorem dX3_burnish_21 : Dc cX3_burnish 21 3 24 (.invokevirtual 42) := ⟨by decide +kernel, rfl⟩
theorem dX3_burnish_24 : Dc cX3_burnish 24 1 25 (.ireturn) := ⟨by decide +kernel, rfl⟩
theorem dX3_burnish_25 : Dc cX3_burnish 25 1 26 (.aload_n 0) := ⟨by decide +kernel, rfl⟩
theorem dX3_burnish_26 : Dc cX3_burnish 26 3 29 (.invokevirtual 46) := ⟨by decide +kernel, rfl⟩
theorem dX3_burnish_29 : Dc cX3_burnish 29 1 30 (.aload_n 0) := ⟨by decide +kernel, rfl⟩
theorem dX3_burnish_30 : Dc cX3_burnish 30 3 33 (.getfield 7) := ⟨by decide +kernel, rfl⟩
theorem dX3_burnish_33 : Dc cX3_burnish 33 2 35 (.bipush 6) := ⟨by decide +kernel, rfl⟩
theorem dX3_burnish_35 : Dc cX3_burnish 35 1 36 (.iload_n 1) := ⟨by decide +kernel, rfl⟩
theorem dX3_burnish_36 : Dc cX3_burnish 36 1 37 (.iadd) := ⟨by decide +kernel, rfl⟩
theorem dX3_burnish_37 : Dc cX3_burnish 37 1 38 (.aload_n 0) := ⟨by decide +kernel, rfl⟩
theorem dX3_burnish_38 : Dc cX3_burnish 38 3 41 (.getfield 7) := ⟨by decide +kernel, rfl⟩
theorem dX3_burnish_41 : Dc cX3_burnish 41 2 43 (.bipush 6) := ⟨by decide +kernel, rfl⟩
theorem dX3_burnish_43 : Dc cX3_burnish 43 1 44 (.iload_n 1) := ⟨by decide +kernel, rfl⟩
theorem dX3_burnish_44 : Dc cX3_burnish 44 1 45 (.iadd) := ⟨by decide +kernel, rfl⟩
theorem dX3_burnish_45 : Dc cX3_burnish 45 1 46 (.iaload) := ⟨by decide +kernel, rfl⟩
theorem dX3_burnish_46 : Dc cX3_burnish 46 1 47 (.iload_n 2) := ⟨by decide +kernel, rfl⟩
theorem dX3_burnish_47 : Dc cX3_burnish 47 3 50 (.if_icmp .le 17) := ⟨by decide +kernel, rfl⟩
theorem dX3_burnish_50 : Dc cX3_burnish 50 1 51 (.aload_n 0) := ⟨by decide +kernel, rfl⟩
theorem dX3_burnish_51 : Dc cX3_burnish 51 3 54 (.getfield 7) := ⟨by decide +kernel, rfl⟩
theorem dX3_burnish_54 : Dc cX3_burnish 54 2 56 (.bipush 6) := ⟨by decide +kernel, rfl⟩
theorem dX3_burnish_56 : Dc cX3_burnish 56 1 57 (.iload_n 1) := ⟨by decide +kernel, rfl⟩
theorem dX3_burnish_57 : Dc cX3_burnish 57 1 58 (.iadd) := ⟨by decide +kernel, rfl⟩
theorem dX3_burnish_58 : Dc cX3_burnish 58 1 59 (.iaload) := ⟨by decide +kernel, rfl⟩
theorem dX3_burnish_59 : Dc cX3_burnish 59 1 60 (.iload_n 2) := ⟨by decide +kernel, rfl⟩
theorem dX3_burnish_60 : Dc cX3_burnish 60 1 61 (.isub) := ⟨by decide +kernel, rfl⟩
theorem dX3_burnish_61 : Dc cX3_burnish 61 3 64 (.goto 4) := ⟨by decide +kernel, rfl⟩
theorem dX3_burnish_64 : Dc cX3_burnish 64 1 65 (.iconst 0) := ⟨by decide +kernel, rfl⟩
theorem dX3_burnish_65 : Dc cX3_burnish 65 1 66 (.iastore) := ⟨by decide +kernel, rfl⟩
theorem dX3_burnish_66 : Dc cX3_burnish 66 1 67 (.aload_n 0) := ⟨by decide +kernel, rfl⟩
theorem dX3_burnish_67 : Dc cX3_burnish 67 3 70 (.getfield 7) := ⟨by decide +kernel, rfl⟩
theorem dX3_burnish_70 : Dc cX3_burnish 70 1 71 (.iconst 3) := ⟨by decide +kernel, rfl⟩
theorem dX3_burnish_71 : Dc cX3_burnish 71 1 72 (.iconst 1) := ⟨by decide +kernel, rfl⟩
theorem dX3_burnish_72 : Dc cX3_burnish 72 1 73 (.iastore) := ⟨by decide +kernel, rfl⟩
theorem dX3_burnish_73 : Dc cX3_burnish 73 1 74 (.aload_n 0) := ⟨by decide +kernel, rfl⟩
theorem dX3_burnish_74 : Dc cX3_burnish 74 3 77 (.getfield 7) := ⟨by decide +kernel, rfl⟩
theorem dX3_burnish_77 : Dc cX3_burnish 77 2 79 (.bipush 6) := ⟨by decide +kernel, rfl⟩
theorem dX3_burnish_79 : Dc cX3_burnish 79 1 80 (.iload_n 1) := ⟨by decide +kernel, rfl⟩
theorem dX3_burnish_80 : Dc cX3_burnish 80 1 81 (.iadd) := ⟨by decide +kernel, rfl⟩
theorem dX3_burnish_81 : Dc cX3_burnish 81 1 82 (.iaload) := ⟨by decide +kernel, rfl⟩
theorem dX3_burnish_82 : Dc cX3_burnish 82 1 83 (.ireturn) := ⟨by decide +kernel, rfl⟩
theorem dX3_pull_0 : Dc cX3_pull 0 1 1 (.aload_n 0) := ⟨by decide +kernel, rfl⟩
theorem dX3_pull_1 : Dc cX3_pull 1 3 4 (.getfield 7) := ⟨by decide +kernel, rfl⟩
theorem dX3_pull_4 : Dc cX3_pull 4 1 5 (.iconst 4) := ⟨by decide +kernel, rfl⟩
theorem dX3_pull_5 : Dc cX3_pull 5 1 6 (.iaload) := ⟨by decide +kernel, rfl⟩
theorem dX3_pull_6 : Dc cX3_pull 6 1 7 (.istore_n 1) := ⟨by decide +kernel, rfl⟩
theorem dX3_pull_7 : Dc cX3_pull 7 1 8 (.iload_n 1) := ⟨by decide +kernel, rfl⟩
theorem dX3_pull_8 : Dc cX3_pull 8 2 10 (.bipush 12) := ⟨by decide +kernel, rfl⟩
theorem dX3_pull_10 : Dc cX3_pull 10 3 13 (.if_icmp .ne 10) := ⟨by decide +kernel, rfl⟩
theorem dX3_pull_13 : Dc cX3_pull 13 1 14 (.aload_n 0) := ⟨by decide +kernel, rfl⟩
theorem dX3_pull_14 : Dc cX3_pull 14 2 16 (.bipush (-4)) := ⟨by decide +kernel, rfl⟩
theorem dX3_pull_16 : Dc cX3_pull 16 3 19 (.invokevirtual 42) := ⟨by decide +kernel, rfl⟩
theorem dX3_pull_19 : Dc cX3_pull 19 1 20 (.ireturn) := ⟨by decide +kernel, rfl⟩
theorem dX3_pull_20 : Dc cX3_pull 20 1 21 (.aload_n 0) := ⟨by decide +kernel, rfl⟩
theorem dX3_pull_21 : Dc cX3_pull 21 3 24 (.invokevirtual 46) := ⟨by decide +kernel, rfl⟩
theorem dX3_pull_24 : Dc cX3_pull 24 1 25 (.aload_n 0) := ⟨by decide +kernel, rfl⟩
theorem dX3_pull_25 : Dc cX3_pull 25 3 28 (.getfield 7) := ⟨by decide +kernel, rfl⟩
theorem dX3_pull_28 : Dc cX3_pull 28 1 29 (.iconst 2) := ⟨by decide +kernel, rfl⟩
theorem dX3_pull_29 : Dc cX3_pull 29 1 30 (.dup2) := ⟨by decide +kernel, rfl⟩
theorem dX3_pull_30 : Dc cX3_pull 30 1 31 (.iaload) := ⟨by decide +kernel, rfl⟩
theorem dX3_pull_31 : Dc cX3_pull 31 1 32 (.iload_n 1) := ⟨by decide +kernel, rfl⟩
theorem dX3_pull_32 : Dc cX3_pull 32 3 35 (.ifCond .le 12) := ⟨by decide +kernel, rfl⟩
theorem dX3_pull_35 : Dc cX3_pull 35 1 36 (.aload_n 0) := ⟨by decide +kernel, rfl⟩
theorem dX3_pull_36 : Dc cX3_pull 36 3 39 (.getfield 7) := ⟨by decide +kernel, rfl⟩
theorem dX3_pull_39 : Dc cX3_pull 39 1 40 (.iconst 3) := ⟨by decide +kernel, rfl⟩
theorem dX3_pull_40 : Dc cX3_pull 40 1 41 (.iaload) := ⟨by decide +kernel, rfl⟩
theorem dX3_pull_41 : Dc cX3_pull 41 3 44 (.goto 4) := ⟨by decide +kernel, rfl⟩
theorem dX3_pull_44 : Dc cX3_pull 44 1 45 (.iconst 0) := ⟨by decide +kernel, rfl⟩
theorem dX3_pull_45 : Dc cX3_pull 45 1 46 (.iadd) := ⟨by decide +kernel, rfl⟩
theorem dX3_pull_46 : Dc cX3_pull 46 1 47 (.iastore) := ⟨by decide +kernel, rfl⟩
theorem dX3_pull_47 : Dc cX3_pull 47 1 48 (.aload_n 0) := ⟨by decide +kernel, rfl⟩
theorem dX3_pull_48 : Dc cX3_pull 48 3 51 (.getfield 7) := ⟨by decide +kernel, rfl⟩
theorem dX3_pull_51 : Dc cX3_pull 51 1 52 (.iconst 3) := ⟨by decide +kernel, rfl⟩
theorem dX3_pull_52 : Dc cX3_pull 52 1 53 (.iconst 0) := ⟨by decide +kernel, rfl⟩
theorem dX3_pull_53 : Dc cX3_pull 53 1 54 (.iastore) := ⟨by decide +kernel, rfl⟩
theorem dX3_pull_54 : Dc cX3_pull 54 1 55 (.aload_n 0) := ⟨by decide +kernel, rfl⟩
theorem dX3_pull_55 : Dc cX3_pull 55 3 58 (.getfield 7) := ⟨by decide +kernel, rfl⟩
theorem dX3_pull_58 : Dc cX3_pull 58 2 60 (.bipush 16) := ⟨by decide +kernel, rfl⟩
theorem dX3_pull_60 : Dc cX3_pull 60 1 61 (.iload_n 1) := ⟨by decide +kernel, rfl⟩
theorem dX3_pull_61 : Dc cX3_pull 61 1 62 (.iadd) := ⟨by decide +kernel, rfl⟩
theorem dX3_pull_62 : Dc cX3_pull 62 1 63 (.aload_n 0) := ⟨by decide +kernel, rfl⟩
theorem dX3_pull_63 : Dc cX3_pull 63 3 66 (.getfield 7) := ⟨by decide +kernel, rfl⟩
theorem dX3_pull_66 : Dc cX3_pull 66 1 67 (.iconst 2) := ⟨by decide +kernel, rfl⟩
theorem dX3_pull_67 : Dc cX3_pull 67 1 68 (.iaload) := ⟨by decide +kernel, rfl⟩
theorem dX3_pull_68 : Dc cX3_pull 68 1 69 (.iastore) := ⟨by decide +kernel, rfl⟩
theorem dX3_pull_69 : Dc cX3_pull 69 1 70 (.iconst 0) := ⟨by decide +kernel, rfl⟩
theorem dX3_pull_70 : Dc cX3_pull 70 1 71 (.istore_n 2) := ⟨by decide +kernel, rfl⟩
theorem dX3_pull_71 : Dc cX3_pull 71 1 72 (.iload_n 2) := ⟨by decide +kernel, rfl⟩
theorem dX3_pull_72 : Dc cX3_pull 72 2 74 (.bipush 10) := ⟨by decide +kernel, rfl⟩
theorem dX3_pull_74 : Dc cX3_pull 74 3 77 (.if_icmp .ge 49) := ⟨by decide +kernel, rfl⟩
theorem dX3_pull_77 : Dc cX3_pull 77 1 78 (.aload_n 0) := ⟨by decide +kernel, rfl⟩
theorem dX3_pull_78 : Dc cX3_pull 78 3 81 (.getfield 7) := ⟨by decide +kernel, rfl⟩
theorem dX3_pull_81 : Dc cX3_pull 81 2 83 (.bipush 28) := ⟨by decide +kernel, rfl⟩
theorem dX3_pull_83 : Dc cX3_pull 83 2 85 (.bipush 10) := ⟨by decide +kernel, rfl⟩
theorem dX3_pull_85 : Dc cX3_pull 85 1 86 (.iload_n 1) := ⟨by decide +kernel, rfl⟩
theorem dX3_pull_86 : Dc cX3_pull 86 1 87 (.imul) := ⟨by decide +kernel, rfl⟩
theorem dX3_pull_87 : Dc cX3_pull 87 1 88 (.iadd) := ⟨by decide +kernel, rfl⟩
theorem dX3_pull_88 : Dc cX3_pull 88 1 89 (.iload_n 2) := ⟨by decide +kernel, rfl⟩
theorem dX3_pull_89 : Dc cX3_pull 89 1 90 (.iadd) := ⟨by decide +kernel, rfl⟩
theorem dX3_pull_90 : Dc cX3_pull 90 1 91 (.iload_n 2) := ⟨by decide +kernel, rfl⟩
theorem dX3_pull_91 : Dc cX3_pull 91 1 92 (.aload_n 0) := ⟨by decide +kernel, rfl⟩
theorem dX3_pull_92 : Dc cX3_pull 92 3 95 (.getfield 7) := ⟨by decide +kernel, rfl⟩
theorem dX3_pull_95 : Dc cX3_pull 95 1 96 (.iconst 0) := ⟨by decide +kernel, rfl⟩
theorem dX3_pull_96 : Dc cX3_pull 96 1 97 (.iaload) := ⟨by decide +kernel, rfl⟩
theorem dX3_pull_97 : Dc cX3_pull 97 3 100 (.if_icmp .ge 18) := ⟨by decide +kernel, rfl⟩
theorem dX3_pull_100 : Dc cX3_pull 100 1 101 (.aload_n 0) := ⟨by decide +kernel, rfl⟩
theorem dX3_pull_101 : Dc cX3_pull 101 3 104 (.getfield 7) := ⟨by decide +kernel, rfl⟩
theorem dX3_pull_104 : Dc cX3_pull 104 2 106 (.bipush 6) := ⟨by decide +kernel, rfl⟩
theorem dX3_pull_106 : Dc cX3_pull 106 1 107 (.iload_n 2) := ⟨by decide +kernel, rfl⟩
theorem dX3_pull_107 : Dc cX3_pull 107 1 108 (.iadd) := ⟨by decide +kernel, rfl⟩
theorem dX3_pull_108 : Dc cX3_pull 108 1 109 (.iaload) := ⟨by decide +kernel, rfl⟩
theorem dX3_pull_109 : Dc cX3_pull 109 2 111 (.bipush 10) := ⟨by decide +kernel, rfl⟩
theorem dX3_pull_111 : Dc cX3_pull 111 1 112 (.idiv) := ⟨by decide +kernel, rfl⟩
theorem dX3_pull_112 : Dc cX3_pull 112 3 115 (.goto 4) := ⟨by decide +kernel, rfl⟩
theorem dX3_pull_115 : Dc cX3_pull 115 1 116 (.iconst 0) := ⟨by decide +kernel, rfl⟩
theorem dX3_pull_116 : Dc cX3_pull 116 1 117 (.iastore) := ⟨by decide +kernel, rfl⟩
theorem dX3_pull_117 : Dc cX3_pull 117 3 120 (.iinc 2 1) := ⟨by decide +kernel, rfl⟩
theorem dX3_pull_120 : Dc cX3_pull 120 3 123 (.goto (-49)) := ⟨by decide +kernel, rfl⟩
theorem dX3_pull_123 : Dc cX3_pull 123 1 124 (.aload_n 0) := ⟨by decide +kernel, rfl⟩
theorem dX3_pull_124 : Dc cX3_pull 124 3 127 (.getfield 7) := ⟨by decide +kernel, rfl⟩
theorem dX3_pull_127 : Dc cX3_pull 127 1 128 (.iconst 4) := ⟨by decide +kernel, rfl⟩
theorem dX3_pull_128 : Dc cX3_pull 128 1 129 (.dup2) := ⟨by decide +kernel, rfl⟩
theorem dX3_pull_129 : Dc cX3_pull 129 1 130 (.iaload) := ⟨by decide +kernel, rfl⟩
theorem dX3_pull_130 : Dc cX3_pull 130 1 131 (.iconst 1) := ⟨by decide +kernel, rfl⟩
theorem dX3_pull_131 : Dc cX3_pull 131 1 132 (.iadd) := ⟨by decide +kernel, rfl⟩
theorem dX3_pull_132 : Dc cX3_pull 132 1 133 (.iastore) := ⟨by decide +kernel, rfl⟩
theorem dX3_pull_133 : Dc cX3_pull 133 1 134 (.iconst 0) := ⟨by decide +kernel, rfl⟩
theorem dX3_pull_134 : Dc cX3_pull 134 1 135 (.istore_n 2) := ⟨by decide +kernel, rfl⟩
theorem dX3_pull_135 : Dc cX3_pull 135 1 136 (.iload_n 2) := ⟨by decide +kernel, rfl⟩
theorem dX3_pull_136 : Dc cX3_pull 136 1 137 (.aload_n 0) := ⟨by decide +kernel, rfl⟩
theorem dX3_pull_137 : Dc cX3_pull 137 3 140 (.getfield 7) := ⟨by decide +kernel, rfl⟩
theorem dX3_pull_140 : Dc cX3_pull 140 1 141 (.iconst 0) := ⟨by decide +kernel, rfl⟩
theorem dX3_pull_141 : Dc cX3_pull 141 1 142 (.iaload) := ⟨by decide +kernel, rfl⟩
theorem dX3_pull_142 : Dc cX3_pull 142 3 145 (.if_icmp .ge 49) := ⟨by decide +kernel, rfl⟩
theorem dX3_pull_145 : Dc cX3_pull 145 1 146 (.aload_n 0) := ⟨by decide +kernel, rfl⟩
theorem dX3_pull_146 : Dc cX3_pull 146 3 149 (.getfield 7) := ⟨by decide +kernel, rfl⟩
theorem dX3_pull_149 : Dc cX3_pull 149 1 150 (.iconst 4) := ⟨by decide +kernel, rfl⟩
theorem dX3_pull_150 : Dc cX3_pull 150 1 151 (.iaload) := ⟨by decide +kernel, rfl⟩
theorem dX3_pull_151 : Dc cX3_pull 151 1 152 (.iconst 3) := ⟨by decide +kernel, rfl⟩
theorem dX3_pull_152 : Dc cX3_pull 152 1 153 (.irem) := ⟨by decide +kernel, rfl⟩
theorem dX3_pull_153 : Dc cX3_pull 153 3 156 (.ifCond .ne 38) := ⟨by decide +kernel, rfl⟩
theorem dX3_pull_156 : Dc cX3_pull 156 1 157 (.aload_n 0) := ⟨by decide +kernel, rfl⟩
theorem dX3_pull_157 : Dc cX3_pull 157 3 160 (.getfield 7) := ⟨by decide +kernel, rfl⟩
theorem dX3_pull_160 : Dc cX3_pull 160 2 162 (.bipush 6) := ⟨by decide +kernel, rfl⟩
theorem dX3_pull_162 : Dc cX3_pull 162 1 163 (.iload_n 2) := ⟨by decide +kernel, rfl⟩
theorem dX3_pull_163 : Dc cX3_pull 163 1 164 (.iadd) := ⟨by decide +kernel, rfl⟩
theorem dX3_pull_164 : Dc cX3_pull 164 1 165 (.dup2) := ⟨by decide +kernel, rfl⟩
theorem dX3_pull_165 : Dc cX3_pull 165 1 166 (.iaload) := ⟨by decide +kernel, rfl⟩
theorem dX3_pull_166 : Dc cX3_pull 166 1 167 (.aload_n 0) := ⟨by decide +kernel, rfl⟩
theorem dX3_pull_167 : Dc cX3_pull 167 3 170 (.getfield 7) := ⟨by decide +kernel, rfl⟩
theorem dX3_pull_170 : Dc cX3_pull 170 2 172 (.bipush 6) := ⟨by decide +kernel, rfl⟩
theorem dX3_pull_172 : Dc cX3_pull 172 1 173 (.iload_n 2) := ⟨by decide +kernel, rfl⟩
theorem dX3_pull_173 : Dc cX3_pull 173 1 174 (.iadd) := ⟨by decide +kernel, rfl⟩
theorem dX3_pull_174 : Dc cX3_pull 174 1 175 (.iaload) := ⟨by decide +kernel, rfl⟩
theorem dX3_pull_175 : Dc cX3_pull 175 3 178 (.ifCond .le 7) := ⟨by decide +kernel, rfl⟩
theorem dX3_pull_178 : Dc cX3_pull 178 1 179 (.iconst 1) := ⟨by decide +kernel, rfl⟩
theorem dX3_pull_179 : Dc cX3_pull 179 3 182 (.goto 4) := ⟨by decide +kernel, rfl⟩
theorem dX3_pull_182 : Dc cX3_pull 182 1 183 (.iconst 0) := ⟨by decide +kernel, rfl⟩
theorem dX3_pull_183 : Dc cX3_pull 183 1 184 (.isub) := ⟨by decide +kernel, rfl⟩
theorem dX3_pull_184 : Dc cX3_pull 184 1 185 (.iastore) := ⟨by decide +kernel, rfl⟩
theorem dX3_pull_185 : Dc cX3_pull 185 3 188 (.iinc 2 1) := ⟨by decide +kernel, rfl⟩
theorem dX3_pull_188 : Dc cX3_pull 188 3 191 (.goto (-53)) := ⟨by decide +kernel, rfl⟩
theorem dX3_pull_191 : Dc cX3_pull 191 1 192 (.iload_n 1) := ⟨by decide +kernel, rfl⟩
theorem dX3_pull_192 : Dc cX3_pull 192 1 193 (.ireturn) := ⟨by decide +kernel, rfl⟩
theorem dX3_lines_0 : Dc cX3_lines 0 1 1 (.aload_n 0) := ⟨by decide +kernel, rfl⟩
theorem dX3_lines_1 : Dc cX3_lines 1 3 4 (.getfield 7) := ⟨by decide +kernel, rfl⟩
theorem dX3_lines_4 : Dc cX3_lines 4 1 5 (.iconst 0) := ⟨by decide +kernel, rfl⟩
theorem dX3_lines_5 : Dc cX3_lines 5 1 6 (.iaload) := ⟨by decide +kernel, rfl⟩
theorem dX3_lines_6 : Dc cX3_lines 6 1 7 (.ireturn) := ⟨by decide +kernel, rfl⟩
theorem dX3_depth_0 : Dc cX3_depth 0 1 1 (.aload_n 0) := ⟨by decide +kernel, rfl⟩
theorem dX3_depth_1 : Dc cX3_depth 1 1 2 (.iload_n 1) := ⟨by decide +kernel, rfl⟩
theorem dX3_depth_2 : Dc cX3_depth 2 3 5 (.invokevirtual 52) := ⟨by decide +kernel, rfl⟩
theorem dX3_depth_5 : Dc cX3_depth 5 3 8 (.ifCond .eq 15) := ⟨by decide +kernel, rfl⟩
theorem dX3_depth_8 : Dc cX3_depth 8 1 9 (.aload_n 0) := ⟨by decide +kernel, rfl⟩
theorem dX3_depth_9 : Dc cX3_depth 9 3 12 (.getfield 7) := ⟨by decide +kernel, rfl⟩
theorem dX3_depth_12 : Dc cX3_depth 12 2 14 (.bipush 6) := ⟨by decide +kernel, rfl⟩
theorem dX3_depth_14 : Dc cX3_depth 14 1 15 (.iload_n 1) := ⟨by decide +kernel, rfl⟩
theorem dX3_depth_15 : Dc cX3_depth 15 1 16 (.iadd) := ⟨by decide +kernel, rfl⟩
theorem dX3_depth_16 : Dc cX3_depth 16 1 17 (.iaload) := ⟨by decide +kernel, rfl⟩
theorem dX3_depth_17 : Dc cX3_depth 17 3 20 (.goto 9) := ⟨by decide +kernel, rfl⟩
theorem dX3_depth_20 : Dc cX3_depth 20 1 21 (.aload_n 0) := ⟨by decide +kernel, rfl⟩
theorem dX3_depth_21 : Dc cX3_depth 21 2 23 (.bipush (-2)) := ⟨by decide +kernel, rfl⟩
theorem dX3_depth_23 : Dc cX3_depth 23 3 26 (.invokevirtual 42) := ⟨by decide +kernel, rfl⟩
theorem dX3_depth_26 : Dc cX3_depth 26 1 27 (.ireturn) := ⟨by decide +kernel, rfl⟩
theorem dX3_varnished_0 : Dc cX3_varnished 0 1 1 (.aload_n 0) := ⟨by decide +kernel, rfl⟩
theorem dX3_varnished_1 : Dc cX3_varnished 1 3 4 (.getfield 7) := ⟨by decide +kernel, rfl⟩
theorem dX3_varnished_4 : Dc cX3_varnished 4 1 5 (.iconst 5) := ⟨by decide +kernel, rfl⟩
theorem dX3_varnished_5 : Dc cX3_varnished 5 1 6 (.iaload) := ⟨by decide +kernel, rfl⟩
theorem dX3_varnished_6 : Dc cX3_varnished 6 1 7 (.ireturn) := ⟨by decide +kernel, rfl⟩
theorem dX3_meanDepthBits_0 : Dc cX3_meanDepthBits 0 1 1 (.iconst 0) := ⟨by decide +kernel, rfl⟩
theorem dX3_meanDepthBits_1 : Dc cX3_meanDepthBits 1 1 2 (.istore_n 1) := ⟨by decide +kernel, rfl⟩
theorem dX3_meanDepthBits_2 : Dc cX3_meanDepthBits 2 1 3 (.iconst 0) := ⟨by decide +kernel, rfl⟩
theorem dX3_meanDepthBits_3 : Dc cX3_meanDepthBits 3 1 4 (.istore_n 2) := ⟨by decide +kernel, rfl⟩
theorem dX3_meanDepthBits_4 : Dc cX3_meanDepthBits 4 1 5 (.iload_n 2) := ⟨by decide +kernel, rfl⟩
theorem dX3_meanDepthBits_5 : Dc cX3_meanDepthBits 5 1 6 (.aload_n 0) := ⟨by decide +kernel, rfl⟩
theorem dX3_meanDepthBits_6 : Dc cX3_meanDepthBits 6 3 9 (.getfield 7) := ⟨by decide +kernel, rfl⟩
theorem dX3_meanDepthBits_9 : Dc cX3_meanDepthBits 9 1 10 (.iconst 0) := ⟨by decide +kernel, rfl⟩
theorem dX3_meanDepthBits_10 : Dc cX3_meanDepthBits 10 1 11 (.iaload) := ⟨by decide +kernel, rfl⟩
theorem dX3_meanDepthBits_11 : Dc cX3_meanDepthBits 11 3 14 (.if_icmp .ge 21) := ⟨by decide +kernel, rfl⟩
theorem dX3_meanDepthBits_14 : Dc cX3_meanDepthBits 14 1 15 (.iload_n 1) := ⟨by decide +kernel, rfl⟩
theorem dX3_meanDepthBits_15 : Dc cX3_meanDepthBits 15 1 16 (.aload_n 0) := ⟨by decide +kernel, rfl⟩
theorem dX3_meanDepthBits_16 : Dc cX3_meanDepthBits 16 3 19 (.getfield 7) := ⟨by decide +kernel, rfl⟩
theorem dX3_meanDepthBits_19 : Dc cX3_meanDepthBits 19 2 21 (.bipush 6) := ⟨by decide +kernel, rfl⟩
theorem dX3_meanDepthBits_21 : Dc cX3_meanDepthBits 21 1 22 (.iload_n 2) := ⟨by decide +kernel, rfl⟩
theorem dX3_meanDepthBits_22 : Dc cX3_meanDepthBits 22 1 23 (.iadd) := ⟨by decide +kernel, rfl⟩
theorem dX3_meanDepthBits_23 : Dc cX3_meanDepthBits 23 1 24 (.iaload) := ⟨by decide +kernel, rfl⟩
theorem dX3_meanDepthBits_24 : Dc cX3_meanDepthBits 24 1 25 (.iadd) := ⟨by decide +kernel, rfl⟩
theorem dX3_meanDepthBits_25 : Dc cX3_meanDepthBits 25 1 26 (.istore_n 1) := ⟨by decide +kernel, rfl⟩
theorem dX3_meanDepthBits_26 : Dc cX3_meanDepthBits 26 3 29 (.iinc 2 1) := ⟨by decide +kernel, rfl⟩
theorem dX3_meanDepthBits_29 : Dc cX3_meanDepthBits 29 3 32 (.goto (-25)) := ⟨by decide +kernel, rfl⟩
theorem dX3_meanDepthBits_32 : Dc cX3_meanDepthBits 32 1 33 (.aload_n 0) := ⟨by decide +kernel, rfl⟩
theorem dX3_meanDepthBits_33 : Dc cX3_meanDepthBits 33 3 36 (.getfield 7) := ⟨by decide +kernel, rfl⟩
theorem dX3_meanDepthBits_36 : Dc cX3_meanDepthBits 36 1 37 (.iconst 0) := ⟨by decide +kernel, rfl⟩
theorem dX3_meanDepthBits_37 : Dc cX3_meanDepthBits 37 1 38 (.iaload) := ⟨by decide +kernel, rfl⟩
theorem dX3_meanDepthBits_38 : Dc cX3_meanDepthBits 38 3 41 (.ifCond .ne 7) := ⟨by decide +kernel, rfl⟩
theorem dX3_meanDepthBits_41 : Dc cX3_meanDepthBits 41 1 42 (.fconst 0) := ⟨by decide +kernel, rfl⟩
theorem dX3_meanDepthBits_42 : Dc cX3_meanDepthBits 42 3 45 (.goto 13) := ⟨by decide +kernel, rfl⟩
theorem dX3_meanDepthBits_45 : Dc cX3_meanDepthBits 45 1 46 (.iload_n 1) := ⟨by decide +kernel, rfl⟩
theorem dX3_meanDepthBits_46 : Dc cX3_meanDepthBits 46 1 47 (.i2f) := ⟨by decide +kernel, rfl⟩
theorem dX3_meanDepthBits_47 : Dc cX3_meanDepthBits 47 1 48 (.aload_n 0) := ⟨by decide +kernel, rfl⟩
theorem dX3_meanDepthBits_48 : Dc cX3_meanDepthBits 48 3 51 (.getfield 7) := ⟨by decide +kernel, rfl⟩
theorem dX3_meanDepthBits_51 : Dc cX3_meanDepthBits 51 1 52 (.iconst 0) := ⟨by decide +kernel, rfl⟩
theorem dX3_meanDepthBits_52 : Dc cX3_meanDepthBits 52 1 53 (.iaload) := ⟨by decide +kernel, rfl⟩
theorem dX3_meanDepthBits_53 : Dc cX3_meanDepthBits 53 1 54 (.i2f) := ⟨by decide +kernel, rfl⟩
theorem dX3_meanDepthBits_54 : Dc cX3_meanDepthBits 54 1 55 (.fdiv) := ⟨by decide +kernel, rfl⟩
theorem dX3_meanDepthBits_55 : Dc cX3_meanDepthBits 55 3 58 (.invokestatic 56) := ⟨by decide +kernel, rfl⟩
theorem dX3_meanDepthBits_58 : Dc cX3_meanDepthBits 58 1 59 (.ireturn) := ⟨by decide +kernel, rfl⟩
theorem dX3_prints_0 : Dc cX3_prints 0 1 1 (.aload_n 0) := ⟨by decide +kernel, rfl⟩
theorem dX3_prints_1 : Dc cX3_prints 1 3 4 (.getfield 7) := ⟨by decide +kernel, rfl⟩
theorem dX3_prints_4 : Dc cX3_prints 4 1 5 (.iconst 4) := ⟨by decide +kernel, rfl⟩
theorem dX3_prints_5 : Dc cX3_prints 5 1 6 (.iaload) := ⟨by decide +kernel, rfl⟩
theorem dX3_prints_6 : Dc cX3_prints 6 1 7 (.ireturn) := ⟨by decide +kernel, rfl⟩
theorem dX3_stateOf_0 : Dc cX3_stateOf 0 1 1 (.aload_n 0) := ⟨by decide +kernel, rfl⟩
theorem dX3_stateOf_1 : Dc cX3_stateOf 1 1 2 (.iload_n 1) := ⟨by decide +kernel, rfl⟩
theorem dX3_stateOf_2 : Dc cX3_stateOf 2 3 5 (.invokevirtual 62) := ⟨by decide +kernel, rfl⟩
theorem dX3_stateOf_5 : Dc cX3_stateOf 5 3 8 (.ifCond .eq 15) := ⟨by decide +kernel, rfl⟩
theorem dX3_stateOf_8 : Dc cX3_stateOf 8 1 9 (.aload_n 0) := ⟨by decide +kernel, rfl⟩
theorem dX3_stateOf_9 : Dc cX3_stateOf 9 3 12 (.getfield 7) := ⟨by decide +kernel, rfl⟩
theorem dX3_stateOf_12 : Dc cX3_stateOf 12 2 14 (.bipush 16) := ⟨by decide +kernel, rfl⟩
theorem dX3_stateOf_14 : Dc cX3_stateOf 14 1 15 (.iload_n 1) := ⟨by decide +kernel, rfl⟩
theorem dX3_stateOf_15 : Dc cX3_stateOf 15 1 16 (.iadd) := ⟨by decide +kernel, rfl⟩
theorem dX3_stateOf_16 : Dc cX3_stateOf 16 1 17 (.iaload) := ⟨by decide +kernel, rfl⟩
theorem dX3_stateOf_17 : Dc cX3_stateOf 17 3 20 (.goto 9) := ⟨by decide +kernel, rfl⟩
theorem dX3_stateOf_20 : Dc cX3_stateOf 20 1 21 (.aload_n 0) := ⟨by decide +kernel, rfl⟩
theorem dX3_stateOf_21 : Dc cX3_stateOf 21 2 23 (.bipush (-2)) := ⟨by decide +kernel, rfl⟩
theorem dX3_stateOf_23 : Dc cX3_stateOf 23 3 26 (.invokevirtual 42) := ⟨by decide +kernel, rfl⟩
theorem dX3_stateOf_26 : Dc cX3_stateOf 26 1 27 (.ireturn) := ⟨by decide +kernel, rfl⟩
theorem dX3_toneOf_0 : Dc cX3_toneOf 0 1 1 (.aload_n 0) := ⟨by decide +kernel, rfl⟩
theorem dX3_toneOf_1 : Dc cX3_toneOf 1 3 4 (.getfield 7) := ⟨by decide +kernel, rfl⟩
theorem dX3_toneOf_4 : Dc cX3_toneOf 4 2 6 (.bipush 28) := ⟨by decide +kernel, rfl⟩
theorem dX3_toneOf_6 : Dc cX3_toneOf 6 2 8 (.bipush 10) := ⟨by decide +kernel, rfl⟩
theorem dX3_toneOf_8 : Dc cX3_toneOf 8 1 9 (.iload_n 1) := ⟨by decide +kernel, rfl⟩
theorem dX3_toneOf_9 : Dc cX3_toneOf 9 1 10 (.imul) := ⟨by decide +kernel, rfl⟩
theorem dX3_toneOf_10 : Dc cX3_toneOf 10 1 11 (.iadd) := ⟨by decide +kernel, rfl⟩
theorem dX3_toneOf_11 : Dc cX3_toneOf 11 1 12 (.iload_n 2) := ⟨by decide +kernel, rfl⟩
theorem dX3_toneOf_12 : Dc cX3_toneOf 12 1 13 (.iadd) := ⟨by decide +kernel, rfl⟩
theorem dX3_toneOf_13 : Dc cX3_toneOf 13 1 14 (.iaload) := ⟨by decide +kernel, rfl⟩
theorem dX3_toneOf_14 : Dc cX3_toneOf 14 1 15 (.ireturn) := ⟨by decide +kernel, rfl⟩
theorem dX3_tone_0 : Dc cX3_tone 0 1 1 (.aload_n 0) := ⟨by decide +kernel, rfl⟩
theorem dX3_tone_1 : Dc cX3_tone 1 1 2 (.iload_n 1) := ⟨by decide +kernel, rfl⟩
theorem dX3_tone_2 : Dc cX3_tone 2 3 5 (.invokevirtual 62) := ⟨by decide +kernel, rfl⟩
theorem dX3_tone_5 : Dc cX3_tone 5 3 8 (.ifCond .eq 20) := ⟨by decide +kernel, rfl⟩
theorem dX3_tone_8 : Dc cX3_tone 8 1 9 (.aload_n 0) := ⟨by decide +kernel, rfl⟩
theorem dX3_tone_9 : Dc cX3_tone 9 1 10 (.iload_n 2) := ⟨by decide +kernel, rfl⟩
theorem dX3_tone_10 : Dc cX3_tone 10 3 13 (.invokevirtual 52) := ⟨by decide +kernel, rfl⟩
theorem dX3_tone_13 : Dc cX3_tone 13 3 16 (.ifCond .eq 12) := ⟨by decide +kernel, rfl⟩
theorem dX3_tone_16 : Dc cX3_tone 16 1 17 (.aload_n 0) := ⟨by decide +kernel, rfl⟩
theorem dX3_tone_17 : Dc cX3_tone 17 1 18 (.iload_n 1) := ⟨by decide +kernel, rfl⟩
theorem dX3_tone_18 : Dc cX3_tone 18 1 19 (.iload_n 2) := ⟨by decide +kernel, rfl⟩
theorem dX3_tone_19 : Dc cX3_tone 19 3 22 (.invokevirtual 65) := ⟨by decide +kernel, rfl⟩
theorem dX3_tone_22 : Dc cX3_tone 22 3 25 (.goto 9) := ⟨by decide +kernel, rfl⟩
theorem dX3_tone_25 : Dc cX3_tone 25 1 26 (.aload_n 0) := ⟨by decide +kernel, rfl⟩
theorem dX3_tone_26 : Dc cX3_tone 26 2 28 (.bipush (-2)) := ⟨by decide +kernel, rfl⟩
theorem dX3_tone_28 : Dc cX3_tone 28 3 31 (.invokevirtual 42) := ⟨by decide +kernel, rfl⟩
theorem dX3_tone_31 : Dc cX3_tone 31 1 32 (.ireturn) := ⟨by decide +kernel, rfl⟩
theorem dX3_may_0 : Dc cX3_may 0 1 1 (.iconst 1) := ⟨by decide +kernel, rfl⟩
theorem dX3_may_1 : Dc cX3_may 1 1 2 (.istore_n 3) := ⟨by decide +kernel, rfl⟩
theorem dX3_may_2 : Dc cX3_may 2 1 3 (.iconst 0) := ⟨by decide +kernel, rfl⟩
theorem dX3_may_3 : Dc cX3_may 3 2 5 (.istore 4) := ⟨by decide +kernel, rfl⟩
theorem dX3_may_5 : Dc cX3_may 5 2 7 (.iload 4) := ⟨by decide +kernel, rfl⟩
theorem dX3_may_7 : Dc cX3_may 7 2 9 (.bipush 10) := ⟨by decide +kernel, rfl⟩
theorem dX3_may_9 : Dc cX3_may 9 3 12 (.if_icmp .ge 36) := ⟨by decide +kernel, rfl⟩
theorem dX3_may_12 : Dc cX3_may 12 1 13 (.iload_n 3) := ⟨by decide +kernel, rfl⟩
theorem dX3_may_13 : Dc cX3_may 13 3 16 (.ifCond .eq 24) := ⟨by decide +kernel, rfl⟩
theorem dX3_may_16 : Dc cX3_may 16 1 17 (.aload_n 0) := ⟨by decide +kernel, rfl⟩
theorem dX3_may_17 : Dc cX3_may 17 1 18 (.iload_n 2) := ⟨by decide +kernel, rfl⟩
theorem dX3_may_18 : Dc cX3_may 18 2 20 (.iload 4) := ⟨by decide +kernel, rfl⟩
theorem dX3_may_20 : Dc cX3_may 20 3 23 (.invokevirtual 65) := ⟨by decide +kernel, rfl⟩
theorem dX3_may_23 : Dc cX3_may 23 1 24 (.aload_n 0) := ⟨by decide +kernel, rfl⟩
theorem dX3_may_24 : Dc cX3_may 24 1 25 (.iload_n 1) := ⟨by decide +kernel, rfl⟩
theorem dX3_may_25 : Dc cX3_may 25 2 27 (.iload 4) := ⟨by decide +kernel, rfl⟩
theorem dX3_may_27 : Dc cX3_may 27 3 30 (.invokevirtual 65) := ⟨by decide +kernel, rfl⟩
theorem dX3_may_30 : Dc cX3_may 30 3 33 (.if_icmp .lt 7) := ⟨by decide +kernel, rfl⟩
theorem dX3_may_33 : Dc cX3_may 33 1 34 (.iconst 1) := ⟨by decide +kernel, rfl⟩
theorem dX3_may_34 : Dc cX3_may 34 3 37 (.goto 4) := ⟨by decide +kernel, rfl⟩
theorem dX3_may_37 : Dc cX3_may 37 1 38 (.iconst 0) := ⟨by decide +kernel, rfl⟩
theorem dX3_may_38 : Dc cX3_may 38 1 39 (.istore_n 3) := ⟨by decide +kernel, rfl⟩
theorem dX3_may_39 : Dc cX3_may 39 3 42 (.iinc 4 1) := ⟨by decide +kernel, rfl⟩
theorem dX3_may_42 : Dc cX3_may 42 3 45 (.goto (-37)) := ⟨by decide +kernel, rfl⟩
theorem dX3_may_45 : Dc cX3_may 45 1 46 (.iload_n 3) := ⟨by decide +kernel, rfl⟩
theorem dX3_may_46 : Dc cX3_may 46 1 47 (.ireturn) := ⟨by decide +kernel, rfl⟩
theorem dX3_mayPrecede_0 : Dc cX3_mayPrecede 0 1 1 (.aload_n 0) := ⟨by decide +kernel, rfl⟩
theorem dX3_mayPrecede_1 : Dc cX3_mayPrecede 1 1 2 (.iload_n 1) := ⟨by decide +kernel, rfl⟩
theorem dX3_mayPrecede_2 : Dc cX3_mayPrecede 2 3 5 (.invokevirtual 62) := ⟨by decide +kernel, rfl⟩
theorem dX3_mayPrecede_5 : Dc cX3_mayPrecede 5 3 8 (.ifCond .eq 28) := ⟨by decide +kernel, rfl⟩
theorem dX3_mayPrecede_8 : Dc cX3_mayPrecede 8 1 9 (.aload_n 0) := ⟨by decide +kernel, rfl⟩
theorem dX3_mayPrecede_9 : Dc cX3_mayPrecede 9 1 10 (.iload_n 2) := ⟨by decide +kernel, rfl⟩
theorem dX3_mayPrecede_10 : Dc cX3_mayPrecede 10 3 13 (.invokevirtual 62) := ⟨by decide +kernel, rfl⟩
theorem dX3_mayPrecede_13 : Dc cX3_mayPrecede 13 3 16 (.ifCond .eq 20) := ⟨by decide +kernel, rfl⟩
theorem dX3_mayPrecede_16 : Dc cX3_mayPrecede 16 1 17 (.aload_n 0) := ⟨by decide +kernel, rfl⟩
theorem dX3_mayPrecede_17 : Dc cX3_mayPrecede 17 1 18 (.iload_n 1) := ⟨by decide +kernel, rfl⟩
theorem dX3_mayPrecede_18 : Dc cX3_mayPrecede 18 1 19 (.iload_n 2) := ⟨by decide +kernel, rfl⟩
theorem dX3_mayPrecede_19 : Dc cX3_mayPrecede 19 3 22 (.invokevirtual 69) := ⟨by decide +kernel, rfl⟩
theorem dX3_mayPrecede_22 : Dc cX3_mayPrecede 22 3 25 (.ifCond .eq 7) := ⟨by decide +kernel, rfl⟩
theorem dX3_mayPrecede_25 : Dc cX3_mayPrecede 25 1 26 (.iconst 1) := ⟨by decide +kernel, rfl⟩
theorem dX3_mayPrecede_26 : Dc cX3_mayPrecede 26 3 29 (.goto 13) := ⟨by decide +kernel, rfl⟩
theorem dX3_mayPrecede_29 : Dc cX3_mayPrecede 29 1 30 (.iconst 0) := ⟨by decide +kernel, rfl⟩
theorem dX3_mayPrecede_30 : Dc cX3_mayPrecede 30 3 33 (.goto 9) := ⟨by decide +kernel, rfl⟩
theorem dX3_mayPrecede_33 : Dc cX3_mayPrecede 33 1 34 (.aload_n 0) := ⟨by decide +kernel, rfl⟩
theorem dX3_mayPrecede_34 : Dc cX3_mayPrecede 34 2 36 (.bipush (-2)) := ⟨by decide +kernel, rfl⟩
theorem dX3_mayPrecede_36 : Dc cX3_mayPrecede 36 3 39 (.invokevirtual 42) := ⟨by decide +kernel, rfl⟩
theorem dX3_mayPrecede_39 : Dc cX3_mayPrecede 39 1 40 (.ireturn) := ⟨by decide +kernel, rfl⟩
theorem dX3_ordersOf_0 : Dc cX3_ordersOf 0 1 1 (.iconst 0) := ⟨by decide +kernel, rfl⟩
theorem dX3_ordersOf_1 : Dc cX3_ordersOf 1 1 2 (.istore_n 2) := ⟨by decide +kernel, rfl⟩
theorem dX3_ordersOf_2 : Dc cX3_ordersOf 2 1 3 (.iload_n 2) := ⟨by decide +kernel, rfl⟩
theorem dX3_ordersOf_3 : Dc cX3_ordersOf 3 1 4 (.aload_n 0) := ⟨by decide +kernel, rfl⟩
theorem dX3_ordersOf_4 : Dc cX3_ordersOf 4 3 7 (.getfield 7) := ⟨by decide +kernel, rfl⟩
theorem dX3_ordersOf_7 : Dc cX3_ordersOf 7 1 8 (.iconst 4) := ⟨by decide +kernel, rfl⟩
theorem dX3_ordersOf_8 : Dc cX3_ordersOf 8 1 9 (.iaload) := ⟨by decide +kernel, rfl⟩
theorem dX3_ordersOf_9 : Dc cX3_ordersOf 9 3 12 (.if_icmp .ge 59) := ⟨by decide +kernel, rfl⟩
theorem dX3_ordersOf_12 : Dc cX3_ordersOf 12 1 13 (.aload_n 0) := ⟨by decide +kernel, rfl⟩
theorem dX3_ordersOf_13 : Dc cX3_ordersOf 13 3 16 (.getfield 25) := ⟨by decide +kernel, rfl⟩
theorem dX3_ordersOf_16 : Dc cX3_ordersOf 16 1 17 (.iload_n 2) := ⟨by decide +kernel, rfl⟩
theorem dX3_ordersOf_17 : Dc cX3_ordersOf 17 1 18 (.iconst 0) := ⟨by decide +kernel, rfl⟩
theorem dX3_ordersOf_18 : Dc cX3_ordersOf 18 1 19 (.iastore) := ⟨by decide +kernel, rfl⟩
theorem dX3_ordersOf_19 : Dc cX3_ordersOf 19 1 20 (.iconst 0) := ⟨by decide +kernel, rfl⟩
theorem dX3_ordersOf_20 : Dc cX3_ordersOf 20 1 21 (.istore_n 3) := ⟨by decide +kernel, rfl⟩
theorem dX3_ordersOf_21 : Dc cX3_ordersOf 21 1 22 (.iload_n 3) := ⟨by decide +kernel, rfl⟩
theorem dX3_ordersOf_22 : Dc cX3_ordersOf 22 1 23 (.aload_n 0) := ⟨by decide +kernel, rfl⟩
theorem dX3_ordersOf_23 : Dc cX3_ordersOf 23 3 26 (.getfield 7) := ⟨by decide +kernel, rfl⟩
theorem dX3_ordersOf_26 : Dc cX3_ordersOf 26 1 27 (.iconst 4) := ⟨by decide +kernel, rfl⟩
theorem dX3_ordersOf_27 : Dc cX3_ordersOf 27 1 28 (.iaload) := ⟨by decide +kernel, rfl⟩
theorem dX3_ordersOf_28 : Dc cX3_ordersOf 28 3 31 (.if_icmp .ge 34) := ⟨by decide +kernel, rfl⟩
theorem dX3_ordersOf_31 : Dc cX3_ordersOf 31 1 32 (.aload_n 0) := ⟨by decide +kernel, rfl⟩
theorem dX3_ordersOf_32 : Dc cX3_ordersOf 32 3 35 (.getfield 25) := ⟨by decide +kernel, rfl⟩
theorem dX3_ordersOf_35 : Dc cX3_ordersOf 35 1 36 (.iload_n 2) := ⟨by decide +kernel, rfl⟩
theorem dX3_ordersOf_36 : Dc cX3_ordersOf 36 1 37 (.dup2) := ⟨by decide +kernel, rfl⟩
theorem dX3_ordersOf_37 : Dc cX3_ordersOf 37 1 38 (.iaload) := ⟨by decide +kernel, rfl⟩
theorem dX3_ordersOf_38 : Dc cX3_ordersOf 38 1 39 (.aload_n 0) := ⟨by decide +kernel, rfl⟩
theorem dX3_ordersOf_39 : Dc cX3_ordersOf 39 1 40 (.iload_n 3) := ⟨by decide +kernel, rfl⟩
theorem dX3_ordersOf_40 : Dc cX3_ordersOf 40 1 41 (.iload_n 2) := ⟨by decide +kernel, rfl⟩
theorem dX3_ordersOf_41 : Dc cX3_ordersOf 41 3 44 (.invokevirtual 69) := ⟨by decide +kernel, rfl⟩
theorem dX3_ordersOf_44 : Dc cX3_ordersOf 44 3 47 (.ifCond .eq 9) := ⟨by decide +kernel, rfl⟩
theorem dX3_ordersOf_47 : Dc cX3_ordersOf 47 1 48 (.iconst 1) := ⟨by decide +kernel, rfl⟩
theorem dX3_ordersOf_48 : Dc cX3_ordersOf 48 1 49 (.iload_n 3) := ⟨by decide +kernel, rfl⟩
theorem dX3_ordersOf_49 : Dc cX3_ordersOf 49 1 50 (.ishl) := ⟨by decide +kernel, rfl⟩
theorem dX3_ordersOf_50 : Dc cX3_ordersOf 50 3 53 (.goto 4) := ⟨by decide +kernel, rfl⟩
theorem dX3_ordersOf_53 : Dc cX3_ordersOf 53 1 54 (.iconst 0) := ⟨by decide +kernel, rfl⟩
theorem dX3_ordersOf_54 : Dc cX3_ordersOf 54 1 55 (.ior) := ⟨by decide +kernel, rfl⟩
theorem dX3_ordersOf_55 : Dc cX3_ordersOf 55 1 56 (.iastore) := ⟨by decide +kernel, rfl⟩
theorem dX3_ordersOf_56 : Dc cX3_ordersOf 56 3 59 (.iinc 3 1) := ⟨by decide +kernel, rfl⟩
theorem dX3_ordersOf_59 : Dc cX3_ordersOf 59 3 62 (.goto (-38)) := ⟨by decide +kernel, rfl⟩
theorem dX3_ordersOf_62 : Dc cX3_ordersOf 62 3 65 (.iinc 2 1) := ⟨by decide +kernel, rfl⟩
theorem dX3_ordersOf_65 : Dc cX3_ordersOf 65 3 68 (.goto (-63)) := ⟨by decide +kernel, rfl⟩
theorem dX3_ordersOf_68 : Dc cX3_ordersOf 68 1 69 (.aload_n 0) := ⟨by decide +kernel, rfl⟩
theorem dX3_ordersOf_69 : Dc cX3_ordersOf 69 3 72 (.getfield 22) := ⟨by decide +kernel, rfl⟩
theorem dX3_ordersOf_72 : Dc cX3_ordersOf 72 1 73 (.iconst 0) := ⟨by decide +kernel, rfl⟩
theorem dX3_ordersOf_73 : Dc cX3_ordersOf 73 1 74 (.iconst 1) := ⟨by decide +kernel, rfl⟩
theorem dX3_ordersOf_74 : Dc cX3_ordersOf 74 1 75 (.iastore) := ⟨by decide +kernel, rfl⟩
theorem dX3_ordersOf_75 : Dc cX3_ordersOf 75 1 76 (.iconst 1) := ⟨by decide +kernel, rfl⟩
theorem dX3_ordersOf_76 : Dc cX3_ordersOf 76 1 77 (.istore_n 2) := ⟨by decide +kernel, rfl⟩
theorem dX3_ordersOf_77 : Dc cX3_ordersOf 77 1 78 (.iload_n 2) := ⟨by decide +kernel, rfl⟩
theorem dX3_ordersOf_78 : Dc cX3_ordersOf 78 1 79 (.iload_n 1) := ⟨by decide +kernel, rfl⟩
theorem dX3_ordersOf_79 : Dc cX3_ordersOf 79 3 82 (.if_icmp .gt 93) := ⟨by decide +kernel, rfl⟩
theorem dX3_ordersOf_82 : Dc cX3_ordersOf 82 1 83 (.aload_n 0) := ⟨by decide +kernel, rfl⟩
theorem dX3_ordersOf_83 : Dc cX3_ordersOf 83 3 86 (.getfield 22) := ⟨by decide +kernel, rfl⟩
theorem dX3_ordersOf_86 : Dc cX3_ordersOf 86 1 87 (.iload_n 2) := ⟨by decide +kernel, rfl⟩
theorem dX3_ordersOf_87 : Dc cX3_ordersOf 87 1 88 (.iconst 0) := ⟨by decide +kernel, rfl⟩
theorem dX3_ordersOf_88 : Dc cX3_ordersOf 88 1 89 (.iastore) := ⟨by decide +kernel, rfl⟩
theorem dX3_ordersOf_89 : Dc cX3_ordersOf 89 1 90 (.iconst 0) := ⟨by decide +kernel, rfl⟩
theorem dX3_ordersOf_90 : Dc cX3_ordersOf 90 1 91 (.istore_n 3) := ⟨by decide +kernel, rfl⟩
theorem dX3_ordersOf_91 : Dc cX3_ordersOf 91 1 92 (.iload_n 3) := ⟨by decide +kernel, rfl⟩
theorem dX3_ordersOf_92 : Dc cX3_ordersOf 92 1 93 (.aload_n 0) := ⟨by decide +kernel, rfl⟩
theorem dX3_ordersOf_93 : Dc cX3_ordersOf 93 3 96 (.getfield 7) := ⟨by decide +kernel, rfl⟩
theorem dX3_ordersOf_96 : Dc cX3_ordersOf 96 1 97 (.iconst 4) := ⟨by decide +kernel, rfl⟩
theorem dX3_ordersOf_97 : Dc cX3_ordersOf 97 1 98 (.iaload) := ⟨by decide +kernel, rfl⟩
theorem dX3_ordersOf_98 : Dc cX3_ordersOf 98 3 101 (.if_icmp .ge 68) := ⟨by decide +kernel, rfl⟩
theorem dX3_ordersOf_101 : Dc cX3_ordersOf 101 1 102 (.iload_n 2) := ⟨by decide +kernel, rfl⟩
theorem dX3_ordersOf_102 : Dc cX3_ordersOf 102 1 103 (.iload_n 3) := ⟨by decide +kernel, rfl⟩
theorem dX3_ordersOf_103 : Dc cX3_ordersOf 103 1 104 (.ishr) := ⟨by decide +kernel, rfl⟩
theorem dX3_ordersOf_104 : Dc cX3_ordersOf 104 1 105 (.iconst 1) := ⟨by decide +kernel, rfl⟩
theorem dX3_ordersOf_105 : Dc cX3_ordersOf 105 1 106 (.iand) := ⟨by decide +kernel, rfl⟩
theorem dX3_ordersOf_106 : Dc cX3_ordersOf 106 1 107 (.iconst 1) := ⟨by decide +kernel, rfl⟩
theorem dX3_ordersOf_107 : Dc cX3_ordersOf 107 3 110 (.if_icmp .ne 20) := ⟨by decide +kernel, rfl⟩
theorem dX3_ordersOf_110 : Dc cX3_ordersOf 110 1 111 (.iload_n 2) := ⟨by decide +kernel, rfl⟩
theorem dX3_ordersOf_111 : Dc cX3_ordersOf 111 1 112 (.aload_n 0) := ⟨by decide +kernel, rfl⟩
theorem dX3_ordersOf_112 : Dc cX3_ordersOf 112 3 115 (.getfield 25) := ⟨by decide +kernel, rfl⟩
theorem dX3_ordersOf_115 : Dc cX3_ordersOf 115 1 116 (.iload_n 3) := ⟨by decide +kernel, rfl⟩
theorem dX3_ordersOf_116 : Dc cX3_ordersOf 116 1 117 (.iaload) := ⟨by decide +kernel, rfl⟩
theorem dX3_ordersOf_117 : Dc cX3_ordersOf 117 1 118 (.iconst (-1)) := ⟨by decide +kernel, rfl⟩
theorem dX3_ordersOf_118 : Dc cX3_ordersOf 118 1 119 (.ixor) := ⟨by decide +kernel, rfl⟩
theorem dX3_ordersOf_119 : Dc cX3_ordersOf 119 1 120 (.iand) := ⟨by decide +kernel, rfl⟩
theorem dX3_ordersOf_120 : Dc cX3_ordersOf 120 3 123 (.ifCond .ne 7) := ⟨by decide +kernel, rfl⟩
theorem dX3_ordersOf_123 : Dc cX3_ordersOf 123 1 124 (.iconst 1) := ⟨by decide +kernel, rfl⟩
theorem dX3_ordersOf_124 : Dc cX3_ordersOf 124 3 127 (.goto 4) := ⟨by decide +kernel, rfl⟩
theorem dX3_ordersOf_127 : Dc cX3_ordersOf 127 1 128 (.iconst 0) := ⟨by decide +kernel, rfl⟩
theorem dX3_ordersOf_128 : Dc cX3_ordersOf 128 2 130 (.istore 4) := ⟨by decide +kernel, rfl⟩
theorem dX3_ordersOf_130 : Dc cX3_ordersOf 130 1 131 (.aload_n 0) := ⟨by decide +kernel, rfl⟩
theorem dX3_ordersOf_131 : Dc cX3_ordersOf 131 3 134 (.getfield 22) := ⟨by decide +kernel, rfl⟩
theorem dX3_ordersOf_134 : Dc cX3_ordersOf 134 1 135 (.iload_n 2) := ⟨by decide +kernel, rfl⟩
theorem dX3_ordersOf_135 : Dc cX3_ordersOf 135 1 136 (.dup2) := ⟨by decide +kernel, rfl⟩
theorem dX3_ordersOf_136 : Dc cX3_ordersOf 136 1 137 (.iaload) := ⟨by decide +kernel, rfl⟩
theorem dX3_ordersOf_137 : Dc cX3_ordersOf 137 2 139 (.iload 4) := ⟨by decide +kernel, rfl⟩
theorem dX3_ordersOf_139 : Dc cX3_ordersOf 139 3 142 (.ifCond .eq 18) := ⟨by decide +kernel, rfl⟩
theorem dX3_ordersOf_142 : Dc cX3_ordersOf 142 1 143 (.aload_n 0) := ⟨by decide +kernel, rfl⟩
theorem dX3_ordersOf_143 : Dc cX3_ordersOf 143 3 146 (.getfield 22) := ⟨by decide +kernel, rfl⟩
theorem dX3_ordersOf_146 : Dc cX3_ordersOf 146 1 147 (.iload_n 2) := ⟨by decide +kernel, rfl⟩
theorem dX3_ordersOf_147 : Dc cX3_ordersOf 147 1 148 (.iconst 1) := ⟨by decide +kernel, rfl⟩
theorem dX3_ordersOf_148 : Dc cX3_ordersOf 148 1 149 (.iload_n 3) := ⟨by decide +kernel, rfl⟩
theorem dX3_ordersOf_149 : Dc cX3_ordersOf 149 1 150 (.ishl) := ⟨by decide +kernel, rfl⟩
theorem dX3_ordersOf_150 : Dc cX3_ordersOf 150 1 151 (.iconst (-1)) := ⟨by decide +kernel, rfl⟩
theorem dX3_ordersOf_151 : Dc cX3_ordersOf 151 1 152 (.ixor) := ⟨by decide +kernel, rfl⟩
theorem dX3_ordersOf_152 : Dc cX3_ordersOf 152 1 153 (.iand) := ⟨by decide +kernel, rfl⟩
theorem dX3_ordersOf_153 : Dc cX3_ordersOf 153 1 154 (.iaload) := ⟨by decide +kernel, rfl⟩
theorem dX3_ordersOf_154 : Dc cX3_ordersOf 154 3 157 (.goto 4) := ⟨by decide +kernel, rfl⟩
theorem dX3_ordersOf_157 : Dc cX3_ordersOf 157 1 158 (.iconst 0) := ⟨by decide +kernel, rfl⟩
theorem dX3_ordersOf_158 : Dc cX3_ordersOf 158 1 159 (.iadd) := ⟨by decide +kernel, rfl⟩
theorem dX3_ordersOf_159 : Dc cX3_ordersOf 159 1 160 (.iastore) := ⟨by decide +kernel, rfl⟩
theorem dX3_ordersOf_160 : Dc cX3_ordersOf 160 3 163 (.iinc 3 1) := ⟨by decide +kernel, rfl⟩
theorem dX3_ordersOf_163 : Dc cX3_ordersOf 163 3 166 (.goto (-72)) := ⟨by decide +kernel, rfl⟩
theorem dX3_ordersOf_166 : Dc cX3_ordersOf 166 3 169 (.iinc 2 1) := ⟨by decide +kernel, rfl⟩
theorem dX3_ordersOf_169 : Dc cX3_ordersOf 169 3 172 (.goto (-92)) := ⟨by decide +kernel, rfl⟩
theorem dX3_ordersOf_172 : Dc cX3_ordersOf 172 1 173 (.aload_n 0) := ⟨by decide +kernel, rfl⟩
theorem dX3_ordersOf_173 : Dc cX3_ordersOf 173 3 176 (.getfield 22) := ⟨by decide +kernel, rfl⟩
theorem dX3_ordersOf_176 : Dc cX3_ordersOf 176 1 177 (.iload_n 1) := ⟨by decide +kernel, rfl⟩
theorem dX3_ordersOf_177 : Dc cX3_ordersOf 177 1 178 (.iaload) := ⟨by decide +kernel, rfl⟩
theorem dX3_ordersOf_178 : Dc cX3_ordersOf 178 1 179 (.ireturn) := ⟨by decide +kernel, rfl⟩
theorem dX3_orders_0 : Dc cX3_orders 0 1 1 (.iload_n 1) := ⟨by decide +kernel, rfl⟩
theorem dX3_orders_1 : Dc cX3_orders 1 1 2 (.iconst 0) := ⟨by decide +kernel, rfl⟩
theorem dX3_orders_2 : Dc cX3_orders 2 1 3 (.iconst 1) := ⟨by decide +kernel, rfl⟩
theorem dX3_orders_3 : Dc cX3_orders 3 1 4 (.aload_n 0) := ⟨by decide +kernel, rfl⟩
theorem dX3_orders_4 : Dc cX3_orders 4 3 7 (.getfield 7) := ⟨by decide +kernel, rfl⟩
theorem dX3_orders_7 : Dc cX3_orders 7 1 8 (.iconst 4) := ⟨by decide +kernel, rfl⟩
theorem dX3_orders_8 : Dc cX3_orders 8 1 9 (.iaload) := ⟨by decide +kernel, rfl⟩
theorem dX3_orders_9 : Dc cX3_orders 9 1 10 (.ishl) := ⟨by decide +kernel, rfl⟩
theorem dX3_orders_10 : Dc cX3_orders 10 1 11 (.iconst 1) := ⟨by decide +kernel, rfl⟩
theorem dX3_orders_11 : Dc cX3_orders 11 1 12 (.isub) := ⟨by decide +kernel, rfl⟩
theorem dX3_orders_12 : Dc cX3_orders 12 3 15 (.invokestatic 34) := ⟨by decide +kernel, rfl⟩
theorem dX3_orders_15 : Dc cX3_orders 15 3 18 (.ifCond .eq 11) := ⟨by decide +kernel, rfl⟩
theorem dX3_orders_18 : Dc cX3_orders 18 1 19 (.aload_n 0) := ⟨by decide +kernel, rfl⟩
theorem dX3_orders_19 : Dc cX3_orders 19 1 20 (.iload_n 1) := ⟨by decide +kernel, rfl⟩
theorem dX3_orders_20 : Dc cX3_orders 20 3 23 (.invokevirtual 73) := ⟨by decide +kernel, rfl⟩
theorem dX3_orders_23 : Dc cX3_orders 23 3 26 (.goto 9) := ⟨by decide +kernel, rfl⟩
theorem dX3_orders_26 : Dc cX3_orders 26 1 27 (.aload_n 0) := ⟨by decide +kernel, rfl⟩
theorem dX3_orders_27 : Dc cX3_orders 27 2 29 (.bipush (-2)) := ⟨by decide +kernel, rfl⟩
theorem dX3_orders_29 : Dc cX3_orders 29 3 32 (.invokevirtual 42) := ⟨by decide +kernel, rfl⟩
theorem dX3_orders_32 : Dc cX3_orders 32 1 33 (.ireturn) := ⟨by decide +kernel, rfl⟩
theorem dX3_bestState_0 : Dc cX3_bestState 0 1 1 (.iconst (-1)) := ⟨by decide +kernel, rfl⟩
theorem dX3_bestState_1 : Dc cX3_bestState 1 1 2 (.istore_n 1) := ⟨by decide +kernel, rfl⟩
theorem dX3_bestState_2 : Dc cX3_bestState 2 1 3 (.iconst 0) := ⟨by decide +kernel, rfl⟩
theorem dX3_bestState_3 : Dc cX3_bestState 3 1 4 (.istore_n 2) := ⟨by decide +kernel, rfl⟩
theorem dX3_bestState_4 : Dc cX3_bestState 4 1 5 (.iconst 0) := ⟨by decide +kernel, rfl⟩
theorem dX3_bestState_5 : Dc cX3_bestState 5 1 6 (.istore_n 3) := ⟨by decide +kernel, rfl⟩
theorem dX3_bestState_6 : Dc cX3_bestState 6 1 7 (.iload_n 3) := ⟨by decide +kernel, rfl⟩
theorem dX3_bestState_7 : Dc cX3_bestState 7 1 8 (.aload_n 0) := ⟨by decide +kernel, rfl⟩
theorem dX3_bestState_8 : Dc cX3_bestState 8 3 11 (.getfield 7) := ⟨by decide +kernel, rfl⟩
theorem dX3_bestState_11 : Dc cX3_bestState 11 1 12 (.iconst 4) := ⟨by decide +kernel, rfl⟩
theorem dX3_bestState_12 : Dc cX3_bestState 12 1 13 (.iaload) := ⟨by decide +kernel, rfl⟩
theorem dX3_bestState_13 : Dc cX3_bestState 13 3 16 (.if_icmp .ge 83) := ⟨by decide +kernel, rfl⟩
theorem dX3_bestState_16 : Dc cX3_bestState 16 1 17 (.iconst 0) := ⟨by decide +kernel, rfl⟩
theorem dX3_bestState_17 : Dc cX3_bestState 17 2 19 (.istore 4) := ⟨by decide +kernel, rfl⟩
theorem dX3_bestState_19 : Dc cX3_bestState 19 1 20 (.iconst 0) := ⟨by decide +kernel, rfl⟩
theorem dX3_bestState_20 : Dc cX3_bestState 20 2 22 (.istore 5) := ⟨by decide +kernel, rfl⟩
theorem dX3_bestState_22 : Dc cX3_bestState 22 2 24 (.iload 5) := ⟨by decide +kernel, rfl⟩
theorem dX3_bestState_24 : Dc cX3_bestState 24 1 25 (.aload_n 0) := ⟨by decide +kernel, rfl⟩
theorem dX3_bestState_25 : Dc cX3_bestState 25 3 28 (.getfield 7) := ⟨by decide +kernel, rfl⟩
theorem dX3_bestState_28 : Dc cX3_bestState 28 1 29 (.iconst 0) := ⟨by decide +kernel, rfl⟩
theorem dX3_bestState_29 : Dc cX3_bestState 29 1 30 (.iaload) := ⟨by decide +kernel, rfl⟩
theorem dX3_bestState_30 : Dc cX3_bestState 30 3 33 (.if_icmp .ge 44) := ⟨by decide +kernel, rfl⟩
theorem dX3_bestState_33 : Dc cX3_bestState 33 1 34 (.aload_n 0) := ⟨by decide +kernel, rfl⟩
theorem dX3_bestState_34 : Dc cX3_bestState 34 1 35 (.iload_n 3) := ⟨by decide +kernel, rfl⟩
theorem dX3_bestState_35 : Dc cX3_bestState 35 2 37 (.iload 5) := ⟨by decide +kernel, rfl⟩
theorem dX3_bestState_37 : Dc cX3_bestState 37 3 40 (.invokevirtual 65) := ⟨by decide +kernel, rfl⟩
theorem dX3_bestState_40 : Dc cX3_bestState 40 1 41 (.aload_n 0) := ⟨by decide +kernel, rfl⟩
theorem dX3_bestState_41 : Dc cX3_bestState 41 3 44 (.getfield 19) := ⟨by decide +kernel, rfl⟩
theorem dX3_bestState_44 : Dc cX3_bestState 44 2 46 (.iload 5) := ⟨by decide +kernel, rfl⟩
theorem dX3_bestState_46 : Dc cX3_bestState 46 1 47 (.iaload) := ⟨by decide +kernel, rfl⟩
theorem dX3_bestState_47 : Dc cX3_bestState 47 1 48 (.isub) := ⟨by decide +kernel, rfl⟩
theorem dX3_bestState_48 : Dc cX3_bestState 48 2 50 (.istore 6) := ⟨by decide +kernel, rfl⟩
theorem dX3_bestState_50 : Dc cX3_bestState 50 2 52 (.iload 4) := ⟨by decide +kernel, rfl⟩
theorem dX3_bestState_52 : Dc cX3_bestState 52 2 54 (.iload 6) := ⟨by decide +kernel, rfl⟩
theorem dX3_bestState_54 : Dc cX3_bestState 54 3 57 (.ifCond .ge 9) := ⟨by decide +kernel, rfl⟩
theorem dX3_bestState_57 : Dc cX3_bestState 57 2 59 (.iload 6) := ⟨by decide +kernel, rfl⟩
theorem dX3_bestState_59 : Dc cX3_bestState 59 1 60 (.ineg) := ⟨by decide +kernel, rfl⟩
theorem dX3_bestState_60 : Dc cX3_bestState 60 3 63 (.goto 5) := ⟨by decide +kernel, rfl⟩
theorem dX3_bestState_63 : Dc cX3_bestState 63 2 65 (.iload 6) := ⟨by decide +kernel, rfl⟩
theorem dX3_bestState_65 : Dc cX3_bestState 65 1 66 (.iadd) := ⟨by decide +kernel, rfl⟩
theorem dX3_bestState_66 : Dc cX3_bestState 66 2 68 (.istore 4) := ⟨by decide +kernel, rfl⟩
theorem dX3_bestState_68 : Dc cX3_bestState 68 3 71 (.iinc 5 1) := ⟨by decide +kernel, rfl⟩
theorem dX3_bestState_71 : Dc cX3_bestState 71 3 74 (.goto (-49)) := ⟨by decide +kernel, rfl⟩
theorem dX3_bestState_74 : Dc cX3_bestState 74 1 75 (.iload_n 1) := ⟨by decide +kernel, rfl⟩
theorem dX3_bestState_75 : Dc cX3_bestState 75 1 76 (.iconst (-1)) := ⟨by decide +kernel, rfl⟩
theorem dX3_bestState_76 : Dc cX3_bestState 76 3 79 (.if_icmp .eq 9) := ⟨by decide +kernel, rfl⟩
theorem dX3_bestState_79 : Dc cX3_bestState 79 2 81 (.iload 4) := ⟨by decide +kernel, rfl⟩
theorem dX3_bestState_81 : Dc cX3_bestState 81 1 82 (.iload_n 2) := ⟨by decide +kernel, rfl⟩
theorem dX3_bestState_82 : Dc cX3_bestState 82 3 85 (.if_icmp .ge 8) := ⟨by decide +kernel, rfl⟩
theorem dX3_bestState_85 : Dc cX3_bestState 85 1 86 (.iload_n 3) := ⟨by decide +kernel, rfl⟩
theorem dX3_bestState_86 : Dc cX3_bestState 86 1 87 (.istore_n 1) := ⟨by decide +kernel, rfl⟩
theorem dX3_bestState_87 : Dc cX3_bestState 87 2 89 (.iload 4) := ⟨by decide +kernel, rfl⟩
theorem dX3_bestState_89 : Dc cX3_bestState 89 1 90 (.istore_n 2) := ⟨by decide +kernel, rfl⟩
theorem dX3_bestState_90 : Dc cX3_bestState 90 3 93 (.iinc 3 1) := ⟨by decide +kernel, rfl⟩
theorem dX3_bestState_93 : Dc cX3_bestState 93 3 96 (.goto (-87)) := ⟨by decide +kernel, rfl⟩
theorem dX3_bestState_96 : Dc cX3_bestState 96 1 97 (.iload_n 1) := ⟨by decide +kernel, rfl⟩
theorem dX3_bestState_97 : Dc cX3_bestState 97 1 98 (.iconst (-1)) := ⟨by decide +kernel, rfl⟩
theorem dX3_bestState_98 : Dc cX3_bestState 98 3 101 (.if_icmp .ne 7) := ⟨by decide +kernel, rfl⟩
theorem dX3_bestState_101 : Dc cX3_bestState 101 1 102 (.iconst (-1)) := ⟨by decide +kernel, rfl⟩
theorem dX3_bestState_102 : Dc cX3_bestState 102 3 105 (.goto 12) := ⟨by decide +kernel, rfl⟩
theorem dX3_bestState_105 : Dc cX3_bestState 105 1 106 (.aload_n 0) := ⟨by decide +kernel, rfl⟩
theorem dX3_bestState_106 : Dc cX3_bestState 106 3 109 (.getfield 7) := ⟨by decide +kernel, rfl⟩
theorem dX3_bestState_109 : Dc cX3_bestState 109 2 111 (.bipush 16) := ⟨by decide +kernel, rfl⟩
theorem dX3_bestState_111 : Dc cX3_bestState 111 1 112 (.iload_n 1) := ⟨by decide +kernel, rfl⟩
theorem dX3_bestState_112 : Dc cX3_bestState 112 1 113 (.iadd) := ⟨by decide +kernel, rfl⟩
theorem dX3_bestState_113 : Dc cX3_bestState 113 1 114 (.iaload) := ⟨by decide +kernel, rfl⟩
theorem dX3_bestState_114 : Dc cX3_bestState 114 1 115 (.ireturn) := ⟨by decide +kernel, rfl⟩
theorem dX3_setTarget_0 : Dc cX3_setTarget 0 1 1 (.iload_n 1) := ⟨by decide +kernel, rfl⟩
theorem dX3_setTarget_1 : Dc cX3_setTarget 1 1 2 (.iconst 0) := ⟨by decide +kernel, rfl⟩
theorem dX3_setTarget_2 : Dc cX3_setTarget 2 2 4 (.bipush 9) := ⟨by decide +kernel, rfl⟩
theorem dX3_setTarget_4 : Dc cX3_setTarget 4 3 7 (.invokestatic 34) := ⟨by decide +kernel, rfl⟩
theorem dX3_setTarget_7 : Dc cX3_setTarget 7 3 10 (.ifCond .eq 13) := ⟨by decide +kernel, rfl⟩
theorem dX3_setTarget_10 : Dc cX3_setTarget 10 1 11 (.iload_n 2) := ⟨by decide +kernel, rfl⟩
theorem dX3_setTarget_11 : Dc cX3_setTarget 11 1 12 (.iconst 0) := ⟨by decide +kernel, rfl⟩
theorem dX3_setTarget_12 : Dc cX3_setTarget 12 2 14 (.bipush 9) := ⟨by decide +kernel, rfl⟩
theorem dX3_setTarget_14 : Dc cX3_setTarget 14 3 17 (.invokestatic 34) := ⟨by decide +kernel, rfl⟩
theorem dX3_setTarget_17 : Dc cX3_setTarget 17 3 20 (.ifCond .ne 10) := ⟨by decide +kernel, rfl⟩
theorem dX3_setTarget_20 : Dc cX3_setTarget 20 1 21 (.aload_n 0) := ⟨by decide +kernel, rfl⟩
theorem dX3_setTarget_21 : Dc cX3_setTarget 21 2 23 (.bipush (-2)) := ⟨by decide +kernel, rfl⟩
theorem dX3_setTarget_23 : Dc cX3_setTarget 23 3 26 (.invokevirtual 42) := ⟨by decide +kernel, rfl⟩
theorem dX3_setTarget_26 : Dc cX3_setTarget 26 1 27 (.ireturn) := ⟨by decide +kernel, rfl⟩
theorem dX3_setTarget_27 : Dc cX3_setTarget 27 1 28 (.aload_n 0) := ⟨by decide +kernel, rfl⟩
theorem dX3_setTarget_28 : Dc cX3_setTarget 28 3 31 (.getfield 19) := ⟨by decide +kernel, rfl⟩
theorem dX3_setTarget_31 : Dc cX3_setTarget 31 1 32 (.iload_n 1) := ⟨by decide +kernel, rfl⟩
theorem dX3_setTarget_32 : Dc cX3_setTarget 32 1 33 (.iaload) := ⟨by decide +kernel, rfl⟩
theorem dX3_setTarget_33 : Dc cX3_setTarget 33 1 34 (.istore_n 3) := ⟨by decide +kernel, rfl⟩
theorem dX3_setTarget_34 : Dc cX3_setTarget 34 1 35 (.aload_n 0) := ⟨by decide +kernel, rfl⟩
theorem dX3_setTarget_35 : Dc cX3_setTarget 35 3 38 (.getfield 19) := ⟨by decide +kernel, rfl⟩
theorem dX3_setTarget_38 : Dc cX3_setTarget 38 1 39 (.iload_n 1) := ⟨by decide +kernel, rfl⟩
theorem dX3_setTarget_39 : Dc cX3_setTarget 39 1 40 (.iload_n 2) := ⟨by decide +kernel, rfl⟩
theorem dX3_setTarget_40 : Dc cX3_setTarget 40 1 41 (.iastore) := ⟨by decide +kernel, rfl⟩
theorem dX3_setTarget_41 : Dc cX3_setTarget 41 1 42 (.iload_n 3) := ⟨by decide +kernel, rfl⟩
theorem dX3_setTarget_42 : Dc cX3_setTarget 42 1 43 (.ireturn) := ⟨by decide +kernel, rfl⟩
theorem dX3_allows_0 : Dc cX3_allows 0 1 1 (.aload_n 0) := ⟨by decide +kernel, rfl⟩
theorem dX3_allows_1 : Dc cX3_allows 1 3 4 (.getfield 7) := ⟨by decide +kernel, rfl⟩
theorem dX3_allows_4 : Dc cX3_allows 4 2 6 (.bipush 6) := ⟨by decide +kernel, rfl⟩
theorem dX3_allows_6 : Dc cX3_allows 6 1 7 (.iload_n 1) := ⟨by decide +kernel, rfl⟩
theorem dX3_allows_7 : Dc cX3_allows 7 1 8 (.iadd) := ⟨by decide +kernel, rfl⟩
theorem dX3_allows_8 : Dc cX3_allows 8 1 9 (.iaload) := ⟨by decide +kernel, rfl⟩
theorem dX3_allows_9 : Dc cX3_allows 9 1 10 (.aload_n 0) := ⟨by decide +kernel, rfl⟩
theorem dX3_allows_10 : Dc cX3_allows 10 3 13 (.getfield 7) := ⟨by decide +kernel, rfl⟩
theorem dX3_allows_13 : Dc cX3_allows 13 1 14 (.iconst 1) := ⟨by decide +kernel, rfl⟩
theorem dX3_allows_14 : Dc cX3_allows 14 1 15 (.iaload) := ⟨by decide +kernel, rfl⟩
theorem dX3_allows_15 : Dc cX3_allows 15 1 16 (.iload_n 2) := ⟨by decide +kernel, rfl⟩
theorem dX3_allows_16 : Dc cX3_allows 16 1 17 (.imul) := ⟨by decide +kernel, rfl⟩
theorem dX3_allows_17 : Dc cX3_allows 17 1 18 (.iadd) := ⟨by decide +kernel, rfl⟩
theorem dX3_allows_18 : Dc cX3_allows 18 2 20 (.bipush 10) := ⟨by decide +kernel, rfl⟩
theorem dX3_allows_20 : Dc cX3_allows 20 1 21 (.aload_n 0) := ⟨by decide +kernel, rfl⟩
theorem dX3_allows_21 : Dc cX3_allows 21 3 24 (.getfield 19) := ⟨by decide +kernel, rfl⟩
theorem dX3_allows_24 : Dc cX3_allows 24 1 25 (.iload_n 1) := ⟨by decide +kernel, rfl⟩
theorem dX3_allows_25 : Dc cX3_allows 25 1 26 (.iaload) := ⟨by decide +kernel, rfl⟩
theorem dX3_allows_26 : Dc cX3_allows 26 1 27 (.imul) := ⟨by decide +kernel, rfl⟩
theorem dX3_allows_27 : Dc cX3_allows 27 2 29 (.bipush 10) := ⟨by decide +kernel, rfl⟩
theorem dX3_allows_29 : Dc cX3_allows 29 1 30 (.aload_n 0) := ⟨by decide +kernel, rfl⟩
theorem dX3_allows_30 : Dc cX3_allows 30 3 33 (.getfield 19) := ⟨by decide +kernel, rfl⟩
theorem dX3_allows_33 : Dc cX3_allows 33 1 34 (.iload_n 1) := ⟨by decide +kernel, rfl⟩
theorem dX3_allows_34 : Dc cX3_allows 34 1 35 (.iaload) := ⟨by decide +kernel, rfl⟩
theorem dX3_allows_35 : Dc cX3_allows 35 1 36 (.imul) := ⟨by decide +kernel, rfl⟩
theorem dX3_allows_36 : Dc cX3_allows 36 2 38 (.bipush 9) := ⟨by decide +kernel, rfl⟩
theorem dX3_allows_38 : Dc cX3_allows 38 1 39 (.iadd) := ⟨by decide +kernel, rfl⟩
theorem dX3_allows_39 : Dc cX3_allows 39 3 42 (.invokestatic 34) := ⟨by decide +kernel, rfl⟩
theorem dX3_allows_42 : Dc cX3_allows 42 1 43 (.ireturn) := ⟨by decide +kernel, rfl⟩
theorem dX3_greatest_0 : Dc cX3_greatest 0 2 2 (.bipush 99) := ⟨by decide +kernel, rfl⟩
theorem dX3_greatest_2 : Dc cX3_greatest 2 1 3 (.istore_n 2) := ⟨by decide +kernel, rfl⟩
theorem dX3_greatest_3 : Dc cX3_greatest 3 1 4 (.iload_n 2) := ⟨by decide +kernel, rfl⟩
theorem dX3_greatest_4 : Dc cX3_greatest 4 3 7 (.ifCond .lt 18) := ⟨by decide +kernel, rfl⟩
theorem dX3_greatest_7 : Dc cX3_greatest 7 1 8 (.aload_n 0) := ⟨by decide +kernel, rfl⟩
theorem dX3_greatest_8 : Dc cX3_greatest 8 1 9 (.iload_n 1) := ⟨by decide +kernel, rfl⟩
theorem dX3_greatest_9 : Dc cX3_greatest 9 1 10 (.iload_n 2) := ⟨by decide +kernel, rfl⟩
theorem dX3_greatest_10 : Dc cX3_greatest 10 3 13 (.invokevirtual 76) := ⟨by decide +kernel, rfl⟩
theorem dX3_greatest_13 : Dc cX3_greatest 13 3 16 (.ifCond .ne 9) := ⟨by decide +kernel, rfl⟩
theorem dX3_greatest_16 : Dc cX3_greatest 16 3 19 (.iinc 2 (-1)) := ⟨by decide +kernel, rfl⟩
theorem dX3_greatest_19 : Dc cX3_greatest 19 3 22 (.goto (-16)) := ⟨by decide +kernel, rfl⟩
theorem dX3_greatest_22 : Dc cX3_greatest 22 1 23 (.iload_n 2) := ⟨by decide +kernel, rfl⟩
theorem dX3_greatest_23 : Dc cX3_greatest 23 1 24 (.ireturn) := ⟨by decide +kernel, rfl⟩
theorem dX3_blocked_0 : Dc cX3_blocked 0 1 1 (.iconst 0) := ⟨by decide +kernel, rfl⟩
theorem dX3_blocked_1 : Dc cX3_blocked 1 1 2 (.istore_n 1) := ⟨by decide +kernel, rfl⟩
theorem dX3_blocked_2 : Dc cX3_blocked 2 1 3 (.iconst 0) := ⟨by decide +kernel, rfl⟩
theorem dX3_blocked_3 : Dc cX3_blocked 3 1 4 (.istore_n 2) := ⟨by decide +kernel, rfl⟩
theorem dX3_blocked_4 : Dc cX3_blocked 4 1 5 (.iload_n 2) := ⟨by decide +kernel, rfl⟩
theorem dX3_blocked_5 : Dc cX3_blocked 5 1 6 (.aload_n 0) := ⟨by decide +kernel, rfl⟩
theorem dX3_blocked_6 : Dc cX3_blocked 6 3 9 (.getfield 7) := ⟨by decide +kernel, rfl⟩
theorem dX3_blocked_9 : Dc cX3_blocked 9 1 10 (.iconst 0) := ⟨by decide +kernel, rfl⟩
theorem dX3_blocked_10 : Dc cX3_blocked 10 1 11 (.iaload) := ⟨by decide +kernel, rfl⟩
theorem dX3_blocked_11 : Dc cX3_blocked 11 3 14 (.if_icmp .ge 27) := ⟨by decide +kernel, rfl⟩
theorem dX3_blocked_14 : Dc cX3_blocked 14 1 15 (.iload_n 1) := ⟨by decide +kernel, rfl⟩
theorem dX3_blocked_15 : Dc cX3_blocked 15 1 16 (.aload_n 0) := ⟨by decide +kernel, rfl⟩
theorem dX3_blocked_16 : Dc cX3_blocked 16 1 17 (.iload_n 2) := ⟨by decide +kernel, rfl⟩
theorem dX3_blocked_17 : Dc cX3_blocked 17 3 20 (.invokevirtual 79) := ⟨by decide +kernel, rfl⟩
theorem dX3_blocked_20 : Dc cX3_blocked 20 3 23 (.ifCond .ge 9) := ⟨by decide +kernel, rfl⟩
theorem dX3_blocked_23 : Dc cX3_blocked 23 1 24 (.iconst 1) := ⟨by decide +kernel, rfl⟩
theorem dX3_blocked_24 : Dc cX3_blocked 24 1 25 (.iload_n 2) := ⟨by decide +kernel, rfl⟩
theorem dX3_blocked_25 : Dc cX3_blocked 25 1 26 (.ishl) := ⟨by decide +kernel, rfl⟩
theorem dX3_blocked_26 : Dc cX3_blocked 26 3 29 (.goto 4) := ⟨by decide +kernel, rfl⟩
theorem dX3_blocked_29 : Dc cX3_blocked 29 1 30 (.iconst 0) := ⟨by decide +kernel, rfl⟩
theorem dX3_blocked_30 : Dc cX3_blocked 30 1 31 (.ior) := ⟨by decide +kernel, rfl⟩
theorem dX3_blocked_31 : Dc cX3_blocked 31 1 32 (.istore_n 1) := ⟨by decide +kernel, rfl⟩
theorem dX3_blocked_32 : Dc cX3_blocked 32 3 35 (.iinc 2 1) := ⟨by decide +kernel, rfl⟩
theorem dX3_blocked_35 : Dc cX3_blocked 35 3 38 (.goto (-31)) := ⟨by decide +kernel, rfl⟩
theorem dX3_blocked_38 : Dc cX3_blocked 38 1 39 (.iload_n 1) := ⟨by decide +kernel, rfl⟩
theorem dX3_blocked_39 : Dc cX3_blocked 39 1 40 (.ireturn) := ⟨by decide +kernel, rfl⟩
theorem dX3_usedBy_0 : Dc cX3_usedBy 0 1 1 (.aload_n 0) := ⟨by decide +kernel, rfl⟩
theorem dX3_usedBy_1 : Dc cX3_usedBy 1 1 2 (.iload_n 1) := ⟨by decide +kernel, rfl⟩
theorem dX3_usedBy_2 : Dc cX3_usedBy 2 1 3 (.iconst 0) := ⟨by decide +kernel, rfl⟩
theorem dX3_usedBy_3 : Dc cX3_usedBy 3 3 6 (.invokevirtual 76) := ⟨by decide +kernel, rfl⟩
theorem dX3_usedBy_6 : Dc cX3_usedBy 6 3 9 (.ifCond .eq 5) := ⟨by decide +kernel, rfl⟩
theorem dX3_usedBy_9 : Dc cX3_usedBy 9 1 10 (.iconst 0) := ⟨by decide +kernel, rfl⟩
theorem dX3_usedBy_10 : Dc cX3_usedBy 10 1 11 (.ireturn) := ⟨by decide +kernel, rfl⟩
theorem dX3_usedBy_11 : Dc cX3_usedBy 11 1 12 (.iconst 0) := ⟨by decide +kernel, rfl⟩
theorem dX3_usedBy_12 : Dc cX3_usedBy 12 1 13 (.istore_n 2) := ⟨by decide +kernel, rfl⟩
theorem dX3_usedBy_13 : Dc cX3_usedBy 13 1 14 (.iload_n 2) := ⟨by decide +kernel, rfl⟩
theorem dX3_usedBy_14 : Dc cX3_usedBy 14 1 15 (.aload_n 0) := ⟨by decide +kernel, rfl⟩
theorem dX3_usedBy_15 : Dc cX3_usedBy 15 3 18 (.getfield 82) := ⟨by decide +kernel, rfl⟩
theorem dX3_usedBy_18 : Dc cX3_usedBy 18 3 21 (.if_icmp .ge 30) := ⟨by decide +kernel, rfl⟩
theorem dX3_usedBy_21 : Dc cX3_usedBy 21 1 22 (.aload_n 0) := ⟨by decide +kernel, rfl⟩
theorem dX3_usedBy_22 : Dc cX3_usedBy 22 1 23 (.iload_n 1) := ⟨by decide +kernel, rfl⟩
theorem dX3_usedBy_23 : Dc cX3_usedBy 23 1 24 (.aload_n 0) := ⟨by decide +kernel, rfl⟩
theorem dX3_usedBy_24 : Dc cX3_usedBy 24 3 27 (.getfield 28) := ⟨by decide +kernel, rfl⟩
theorem dX3_usedBy_27 : Dc cX3_usedBy 27 1 28 (.iload_n 2) := ⟨by decide +kernel, rfl⟩
theorem dX3_usedBy_28 : Dc cX3_usedBy 28 1 29 (.iaload) := ⟨by decide +kernel, rfl⟩
theorem dX3_usedBy_29 : Dc cX3_usedBy 29 3 32 (.invokevirtual 76) := ⟨by decide +kernel, rfl⟩
theorem dX3_usedBy_32 : Dc cX3_usedBy 32 3 35 (.ifCond .eq 10) := ⟨by decide +kernel, rfl⟩
theorem dX3_usedBy_35 : Dc cX3_usedBy 35 1 36 (.aload_n 0) := ⟨by decide +kernel, rfl⟩
theorem dX3_usedBy_36 : Dc cX3_usedBy 36 3 39 (.getfield 28) := ⟨by decide +kernel, rfl⟩
theorem dX3_usedBy_39 : Dc cX3_usedBy 39 1 40 (.iload_n 2) := ⟨by decide +kernel, rfl⟩
theorem dX3_usedBy_40 : Dc cX3_usedBy 40 1 41 (.iaload) := ⟨by decide +kernel, rfl⟩
theorem dX3_usedBy_41 : Dc cX3_usedBy 41 1 42 (.ireturn) := ⟨by decide +kernel, rfl⟩
theorem dX3_usedBy_42 : Dc cX3_usedBy 42 3 45 (.iinc 2 1) := ⟨by decide +kernel, rfl⟩
theorem dX3_usedBy_45 : Dc cX3_usedBy 45 3 48 (.goto (-32)) := ⟨by decide +kernel, rfl⟩
theorem dX3_usedBy_48 : Dc cX3_usedBy 48 1 49 (.iconst (-1)) := ⟨by decide +kernel, rfl⟩
theorem dX3_usedBy_49 : Dc cX3_usedBy 49 1 50 (.ireturn) := ⟨by decide +kernel, rfl⟩
theorem dX3_plans_0 : Dc cX3_plans 0 1 1 (.aload_n 0) := ⟨by decide +kernel, rfl⟩
theorem dX3_plans_1 : Dc cX3_plans 1 1 2 (.iconst 0) := ⟨by decide +kernel, rfl⟩
theorem dX3_plans_2 : Dc cX3_plans 2 3 5 (.putfield 82) := ⟨by decide +kernel, rfl⟩
theorem dX3_plans_5 : Dc cX3_plans 5 1 6 (.iconst 0) := ⟨by decide +kernel, rfl⟩
theorem dX3_plans_6 : Dc cX3_plans 6 1 7 (.istore_n 1) := ⟨by decide +kernel, rfl⟩
theorem dX3_plans_7 : Dc cX3_plans 7 1 8 (.iload_n 1) := ⟨by decide +kernel, rfl⟩
theorem dX3_plans_8 : Dc cX3_plans 8 2 10 (.bipush 100) := ⟨by decide +kernel, rfl⟩
theorem dX3_plans_10 : Dc cX3_plans 10 3 13 (.if_icmp .ge 65) := ⟨by decide +kernel, rfl⟩
theorem dX3_plans_13 : Dc cX3_plans 13 1 14 (.iconst 0) := ⟨by decide +kernel, rfl⟩
theorem dX3_plans_14 : Dc cX3_plans 14 1 15 (.istore_n 2) := ⟨by decide +kernel, rfl⟩
theorem dX3_plans_15 : Dc cX3_plans 15 1 16 (.iload_n 2) := ⟨by decide +kernel, rfl⟩
theorem dX3_plans_16 : Dc cX3_plans 16 1 17 (.aload_n 0) := ⟨by decide +kernel, rfl⟩
theorem dX3_plans_17 : Dc cX3_plans 17 3 20 (.getfield 7) := ⟨by decide +kernel, rfl⟩
theorem dX3_plans_20 : Dc cX3_plans 20 1 21 (.iconst 0) := ⟨by decide +kernel, rfl⟩
theorem dX3_plans_21 : Dc cX3_plans 21 1 22 (.iaload) := ⟨by decide +kernel, rfl⟩
theorem dX3_plans_22 : Dc cX3_plans 22 3 25 (.if_icmp .ge 47) := ⟨by decide +kernel, rfl⟩
theorem dX3_plans_25 : Dc cX3_plans 25 1 26 (.aload_n 0) := ⟨by decide +kernel, rfl⟩
theorem dX3_plans_26 : Dc cX3_plans 26 1 27 (.iload_n 2) := ⟨by decide +kernel, rfl⟩
theorem dX3_plans_27 : Dc cX3_plans 27 3 30 (.invokevirtual 79) := ⟨by decide +kernel, rfl⟩
theorem dX3_plans_30 : Dc cX3_plans 30 1 31 (.iload_n 1) := ⟨by decide +kernel, rfl⟩
theorem dX3_plans_31 : Dc cX3_plans 31 3 34 (.if_icmp .ne 32) := ⟨by decide +kernel, rfl⟩
theorem dX3_plans_34 : Dc cX3_plans 34 1 35 (.aload_n 0) := ⟨by decide +kernel, rfl⟩
theorem dX3_plans_35 : Dc cX3_plans 35 1 36 (.iload_n 2) := ⟨by decide +kernel, rfl⟩
theorem dX3_plans_36 : Dc cX3_plans 36 3 39 (.invokevirtual 85) := ⟨by decide +kernel, rfl⟩
theorem dX3_plans_39 : Dc cX3_plans 39 1 40 (.iconst (-1)) := ⟨by decide +kernel, rfl⟩
theorem dX3_plans_40 : Dc cX3_plans 40 3 43 (.if_icmp .ne 23) := ⟨by decide +kernel, rfl⟩
theorem dX3_plans_43 : Dc cX3_plans 43 1 44 (.aload_n 0) := ⟨by decide +kernel, rfl⟩
theorem dX3_plans_44 : Dc cX3_plans 44 3 47 (.getfield 28) := ⟨by decide +kernel, rfl⟩
theorem dX3_plans_47 : Dc cX3_plans 47 1 48 (.aload_n 0) := ⟨by decide +kernel, rfl⟩
theorem dX3_plans_48 : Dc cX3_plans 48 3 51 (.getfield 82) := ⟨by decide +kernel, rfl⟩
theorem dX3_plans_51 : Dc cX3_plans 51 1 52 (.iload_n 1) := ⟨by decide +kernel, rfl⟩
theorem dX3_plans_52 : Dc cX3_plans 52 1 53 (.iastore) := ⟨by decide +kernel, rfl⟩
theorem dX3_plans_53 : Dc cX3_plans 53 1 54 (.aload_n 0) := ⟨by decide +kernel, rfl⟩
theorem dX3_plans_54 : Dc cX3_plans 54 1 55 (.dup) := ⟨by decide +kernel, rfl⟩
theorem dX3_plans_55 : Dc cX3_plans 55 3 58 (.getfield 82) := ⟨by decide +kernel, rfl⟩
theorem dX3_plans_58 : Dc cX3_plans 58 1 59 (.iconst 1) := ⟨by decide +kernel, rfl⟩
theorem dX3_plans_59 : Dc cX3_plans 59 1 60 (.iadd) := ⟨by decide +kernel, rfl⟩
theorem dX3_plans_60 : Dc cX3_plans 60 3 63 (.putfield 82) := ⟨by decide +kernel, rfl⟩
theorem dX3_plans_63 : Dc cX3_plans 63 3 66 (.iinc 2 1) := ⟨by decide +kernel, rfl⟩
theorem dX3_plans_66 : Dc cX3_plans 66 3 69 (.goto (-51)) := ⟨by decide +kernel, rfl⟩
theorem dX3_plans_69 : Dc cX3_plans 69 3 72 (.iinc 1 1) := ⟨by decide +kernel, rfl⟩
theorem dX3_plans_72 : Dc cX3_plans 72 3 75 (.goto (-65)) := ⟨by decide +kernel, rfl⟩
theorem dX3_plans_75 : Dc cX3_plans 75 1 76 (.iconst 0) := ⟨by decide +kernel, rfl⟩
theorem dX3_plans_76 : Dc cX3_plans 76 1 77 (.istore_n 1) := ⟨by decide +kernel, rfl⟩
theorem dX3_plans_77 : Dc cX3_plans 77 1 78 (.iload_n 1) := ⟨by decide +kernel, rfl⟩
theorem dX3_plans_78 : Dc cX3_plans 78 1 79 (.aload_n 0) := ⟨by decide +kernel, rfl⟩
theorem dX3_plans_79 : Dc cX3_plans 79 3 82 (.getfield 7) := ⟨by decide +kernel, rfl⟩
theorem dX3_plans_82 : Dc cX3_plans 82 1 83 (.iconst 0) := ⟨by decide +kernel, rfl⟩
theorem dX3_plans_83 : Dc cX3_plans 83 1 84 (.iaload) := ⟨by decide +kernel, rfl⟩
theorem dX3_plans_84 : Dc cX3_plans 84 3 87 (.if_icmp .ge 20) := ⟨by decide +kernel, rfl⟩
theorem dX3_plans_87 : Dc cX3_plans 87 1 88 (.aload_n 0) := ⟨by decide +kernel, rfl⟩
theorem dX3_plans_88 : Dc cX3_plans 88 3 91 (.getfield 31) := ⟨by decide +kernel, rfl⟩
theorem dX3_plans_91 : Dc cX3_plans 91 1 92 (.iload_n 1) := ⟨by decide +kernel, rfl⟩
theorem dX3_plans_92 : Dc cX3_plans 92 1 93 (.aload_n 0) := ⟨by decide +kernel, rfl⟩
theorem dX3_plans_93 : Dc cX3_plans 93 1 94 (.iload_n 1) := ⟨by decide +kernel, rfl⟩
theorem dX3_plans_94 : Dc cX3_plans 94 3 97 (.invokevirtual 85) := ⟨by decide +kernel, rfl⟩
theorem dX3_plans_97 : Dc cX3_plans 97 1 98 (.iastore) := ⟨by decide +kernel, rfl⟩
theorem dX3_plans_98 : Dc cX3_plans 98 3 101 (.iinc 1 1) := ⟨by decide +kernel, rfl⟩
theorem dX3_plans_101 : Dc cX3_plans 101 3 104 (.goto (-24)) := ⟨by decide +kernel, rfl⟩
theorem dX3_plans_104 : Dc cX3_plans 104 1 105 (.return_) := ⟨by decide +kernel, rfl⟩
theorem dX3_minutesOf_0 : Dc cX3_minutesOf 0 1 1 (.aload_n 0) := ⟨by decide +kernel, rfl⟩
theorem dX3_minutesOf_1 : Dc cX3_minutesOf 1 3 4 (.getfield 28) := ⟨by decide +kernel, rfl⟩
theorem dX3_minutesOf_4 : Dc cX3_minutesOf 4 1 5 (.iload_n 1) := ⟨by decide +kernel, rfl⟩
theorem dX3_minutesOf_5 : Dc cX3_minutesOf 5 1 6 (.iaload) := ⟨by decide +kernel, rfl⟩
theorem dX3_minutesOf_6 : Dc cX3_minutesOf 6 1 7 (.iload_n 1) := ⟨by decide +kernel, rfl⟩
theorem dX3_minutesOf_7 : Dc cX3_minutesOf 7 3 10 (.ifCond .ne 7) := ⟨by decide +kernel, rfl⟩
theorem dX3_minutesOf_10 : Dc cX3_minutesOf 10 1 11 (.iconst 0) := ⟨by decide +kernel, rfl⟩
theorem dX3_minutesOf_11 : Dc cX3_minutesOf 11 3 14 (.goto 11) := ⟨by decide +kernel, rfl⟩
theorem dX3_minutesOf_14 : Dc cX3_minutesOf 14 1 15 (.aload_n 0) := ⟨by decide +kernel, rfl⟩
theorem dX3_minutesOf_15 : Dc cX3_minutesOf 15 3 18 (.getfield 28) := ⟨by decide +kernel, rfl⟩
theorem dX3_minutesOf_18 : Dc cX3_minutesOf 18 1 19 (.iload_n 1) := ⟨by decide +kernel, rfl⟩
theorem dX3_minutesOf_19 : Dc cX3_minutesOf 19 1 20 (.iconst 1) := ⟨by decide +kernel, rfl⟩
theorem dX3_minutesOf_20 : Dc cX3_minutesOf 20 1 21 (.isub) := ⟨by decide +kernel, rfl⟩
theorem dX3_minutesOf_21 : Dc cX3_minutesOf 21 1 22 (.iaload) := ⟨by decide +kernel, rfl⟩
theorem dX3_minutesOf_22 : Dc cX3_minutesOf 22 1 23 (.isub) := ⟨by decide +kernel, rfl⟩
theorem dX3_minutesOf_23 : Dc cX3_minutesOf 23 1 24 (.ireturn) := ⟨by decide +kernel, rfl⟩
theorem dX3_doneBefore_0 : Dc cX3_doneBefore 0 1 1 (.iconst 0) := ⟨by decide +kernel, rfl⟩
theorem dX3_doneBefore_1 : Dc cX3_doneBefore 1 1 2 (.istore_n 2) := ⟨by decide +kernel, rfl⟩
theorem dX3_doneBefore_2 : Dc cX3_doneBefore 2 1 3 (.iconst 0) := ⟨by decide +kernel, rfl⟩
theorem dX3_doneBefore_3 : Dc cX3_doneBefore 3 1 4 (.istore_n 3) := ⟨by decide +kernel, rfl⟩
theorem dX3_doneBefore_4 : Dc cX3_doneBefore 4 1 5 (.iload_n 3) := ⟨by decide +kernel, rfl⟩
theorem dX3_doneBefore_5 : Dc cX3_doneBefore 5 1 6 (.aload_n 0) := ⟨by decide +kernel, rfl⟩
theorem dX3_doneBefore_6 : Dc cX3_doneBefore 6 3 9 (.getfield 7) := ⟨by decide +kernel, rfl⟩
theorem dX3_doneBefore_9 : Dc cX3_doneBefore 9 1 10 (.iconst 0) := ⟨by decide +kernel, rfl⟩
theorem dX3_doneBefore_10 : Dc cX3_doneBefore 10 1 11 (.iaload) := ⟨by decide +kernel, rfl⟩
theorem dX3_doneBefore_11 : Dc cX3_doneBefore 11 3 14 (.if_icmp .ge 44) := ⟨by decide +kernel, rfl⟩
theorem dX3_doneBefore_14 : Dc cX3_doneBefore 14 1 15 (.iload_n 2) := ⟨by decide +kernel, rfl⟩
theorem dX3_doneBefore_15 : Dc cX3_doneBefore 15 1 16 (.aload_n 0) := ⟨by decide +kernel, rfl⟩
theorem dX3_doneBefore_16 : Dc cX3_doneBefore 16 3 19 (.getfield 31) := ⟨by decide +kernel, rfl⟩
theorem dX3_doneBefore_19 : Dc cX3_doneBefore 19 1 20 (.iload_n 3) := ⟨by decide +kernel, rfl⟩
theorem dX3_doneBefore_20 : Dc cX3_doneBefore 20 1 21 (.iaload) := ⟨by decide +kernel, rfl⟩
theorem dX3_doneBefore_21 : Dc cX3_doneBefore 21 1 22 (.iload_n 1) := ⟨by decide +kernel, rfl⟩
theorem dX3_doneBefore_22 : Dc cX3_doneBefore 22 3 25 (.ifCond .ne 7) := ⟨by decide +kernel, rfl⟩
theorem dX3_doneBefore_25 : Dc cX3_doneBefore 25 1 26 (.iconst 0) := ⟨by decide +kernel, rfl⟩
theorem dX3_doneBefore_26 : Dc cX3_doneBefore 26 3 29 (.goto 11) := ⟨by decide +kernel, rfl⟩
theorem dX3_doneBefore_29 : Dc cX3_doneBefore 29 1 30 (.aload_n 0) := ⟨by decide +kernel, rfl⟩
theorem dX3_doneBefore_30 : Dc cX3_doneBefore 30 3 33 (.getfield 28) := ⟨by decide +kernel, rfl⟩
theorem dX3_doneBefore_33 : Dc cX3_doneBefore 33 1 34 (.iload_n 1) := ⟨by decide +kernel, rfl⟩
theorem dX3_doneBefore_34 : Dc cX3_doneBefore 34 1 35 (.iconst 1) := ⟨by decide +kernel, rfl⟩
theorem dX3_doneBefore_35 : Dc cX3_doneBefore 35 1 36 (.isub) := ⟨by decide +kernel, rfl⟩
theorem dX3_doneBefore_36 : Dc cX3_doneBefore 36 1 37 (.iaload) := ⟨by decide +kernel, rfl⟩
theorem dX3_doneBefore_37 : Dc cX3_doneBefore 37 3 40 (.if_icmp .gt 9) := ⟨by decide +kernel, rfl⟩
theorem dX3_doneBefore_40 : Dc cX3_doneBefore 40 1 41 (.iconst 1) := ⟨by decide +kernel, rfl⟩
theorem dX3_doneBefore_41 : Dc cX3_doneBefore 41 1 42 (.iload_n 3) := ⟨by decide +kernel, rfl⟩
theorem dX3_doneBefore_42 : Dc cX3_doneBefore 42 1 43 (.ishl) := ⟨by decide +kernel, rfl⟩
theorem dX3_doneBefore_43 : Dc cX3_doneBefore 43 3 46 (.goto 4) := ⟨by decide +kernel, rfl⟩
theorem dX3_doneBefore_46 : Dc cX3_doneBefore 46 1 47 (.iconst 0) := ⟨by decide +kernel, rfl⟩
theorem dX3_doneBefore_47 : Dc cX3_doneBefore 47 1 48 (.ior) := ⟨by decide +kernel, rfl⟩
theorem dX3_doneBefore_48 : Dc cX3_doneBefore 48 1 49 (.istore_n 2) := ⟨by decide +kernel, rfl⟩
theorem dX3_doneBefore_49 : Dc cX3_doneBefore 49 3 52 (.iinc 3 1) := ⟨by decide +kernel, rfl⟩
theorem dX3_doneBefore_52 : Dc cX3_doneBefore 52 3 55 (.goto (-48)) := ⟨by decide +kernel, rfl⟩
theorem dX3_doneBefore_55 : Dc cX3_doneBefore 55 1 56 (.iload_n 2) := ⟨by decide +kernel, rfl⟩
theorem dX3_doneBefore_56 : Dc cX3_doneBefore 56 1 57 (.ireturn) := ⟨by decide +kernel, rfl⟩
theorem dX3_dips_0 : Dc cX3_dips 0 1 1 (.aload_n 0) := ⟨by decide +kernel, rfl⟩
theorem dX3_dips_1 : Dc cX3_dips 1 3 4 (.invokevirtual 88) := ⟨by decide +kernel, rfl⟩
theorem dX3_dips_4 : Dc cX3_dips 4 3 7 (.ifCond .eq 10) := ⟨by decide +kernel, rfl⟩
theorem dX3_dips_7 : Dc cX3_dips 7 1 8 (.aload_n 0) := ⟨by decide +kernel, rfl⟩
theorem dX3_dips_8 : Dc cX3_dips 8 2 10 (.bipush (-3)) := ⟨by decide +kernel, rfl⟩
theorem dX3_dips_10 : Dc cX3_dips 10 3 13 (.invokevirtual 42) := ⟨by decide +kernel, rfl⟩
theorem dX3_dips_13 : Dc cX3_dips 13 1 14 (.ireturn) := ⟨by decide +kernel, rfl⟩
theorem dX3_dips_14 : Dc cX3_dips 14 1 15 (.aload_n 0) := ⟨by decide +kernel, rfl⟩
theorem dX3_dips_15 : Dc cX3_dips 15 3 18 (.invokevirtual 92) := ⟨by decide +kernel, rfl⟩
theorem dX3_dips_18 : Dc cX3_dips 18 1 19 (.aload_n 0) := ⟨by decide +kernel, rfl⟩
theorem dX3_dips_19 : Dc cX3_dips 19 3 22 (.getfield 82) := ⟨by decide +kernel, rfl⟩
theorem dX3_dips_22 : Dc cX3_dips 22 1 23 (.ireturn) := ⟨by decide +kernel, rfl⟩
theorem dX3_against_0 : Dc cX3_against 0 1 1 (.iload_n 1) := ⟨by decide +kernel, rfl⟩
theorem dX3_against_1 : Dc cX3_against 1 3 4 (.ifCond .ge 10) := ⟨by decide +kernel, rfl⟩
theorem dX3_against_4 : Dc cX3_against 4 1 5 (.aload_n 0) := ⟨by decide +kernel, rfl⟩
theorem dX3_against_5 : Dc cX3_against 5 2 7 (.bipush (-2)) := ⟨by decide +kernel, rfl⟩
theorem dX3_against_7 : Dc cX3_against 7 3 10 (.invokevirtual 42) := ⟨by decide +kernel, rfl⟩
theorem dX3_against_10 : Dc cX3_against 10 1 11 (.ireturn) := ⟨by decide +kernel, rfl⟩
theorem dX3_against_11 : Dc cX3_against 11 1 12 (.aload_n 0) := ⟨by decide +kernel, rfl⟩
theorem dX3_against_12 : Dc cX3_against 12 3 15 (.invokevirtual 88) := ⟨by decide +kernel, rfl⟩
theorem dX3_against_15 : Dc cX3_against 15 3 18 (.ifCond .eq 10) := ⟨by decide +kernel, rfl⟩
theorem dX3_against_18 : Dc cX3_against 18 1 19 (.aload_n 0) := ⟨by decide +kernel, rfl⟩
theorem dX3_against_19 : Dc cX3_against 19 2 21 (.bipush (-3)) := ⟨by decide +kernel, rfl⟩
theorem dX3_against_21 : Dc cX3_against 21 3 24 (.invokevirtual 42) := ⟨by decide +kernel, rfl⟩
theorem dX3_against_24 : Dc cX3_against 24 1 25 (.ireturn) := ⟨by decide +kernel, rfl⟩
theorem dX3_against_25 : Dc cX3_against 25 1 26 (.aload_n 0) := ⟨by decide +kernel, rfl⟩
theorem dX3_against_26 : Dc cX3_against 26 3 29 (.invokevirtual 92) := ⟨by decide +kernel, rfl⟩
theorem dX3_against_29 : Dc cX3_against 29 1 30 (.iload_n 1) := ⟨by decide +kernel, rfl⟩
theorem dX3_against_30 : Dc cX3_against 30 1 31 (.aload_n 0) := ⟨by decide +kernel, rfl⟩
theorem dX3_against_31 : Dc cX3_against 31 3 34 (.getfield 82) := ⟨by decide +kernel, rfl⟩
theorem dX3_against_34 : Dc cX3_against 34 3 37 (.if_icmp .ge 7) := ⟨by decide +kernel, rfl⟩
theorem dX3_against_37 : Dc cX3_against 37 1 38 (.iconst 0) := ⟨by decide +kernel, rfl⟩
theorem dX3_against_38 : Dc cX3_against 38 3 41 (.goto 4) := ⟨by decide +kernel, rfl⟩
theorem dX3_against_41 : Dc cX3_against 41 1 42 (.iconst (-1)) := ⟨by decide +kernel, rfl⟩
theorem dX3_against_42 : Dc cX3_against 42 1 43 (.ireturn) := ⟨by decide +kernel, rfl⟩
theorem dX3_dipMinutes_0 : Dc cX3_dipMinutes 0 1 1 (.aload_n 0) := ⟨by decide +kernel, rfl⟩
theorem dX3_dipMinutes_1 : Dc cX3_dipMinutes 1 1 2 (.iload_n 1) := ⟨by decide +kernel, rfl⟩
theorem dX3_dipMinutes_2 : Dc cX3_dipMinutes 2 3 5 (.invokevirtual 95) := ⟨by decide +kernel, rfl⟩
theorem dX3_dipMinutes_5 : Dc cX3_dipMinutes 5 1 6 (.istore_n 2) := ⟨by decide +kernel, rfl⟩
theorem dX3_dipMinutes_6 : Dc cX3_dipMinutes 6 1 7 (.iload_n 2) := ⟨by decide +kernel, rfl⟩
theorem dX3_dipMinutes_7 : Dc cX3_dipMinutes 7 3 10 (.ifCond .ne 11) := ⟨by decide +kernel, rfl⟩
theorem dX3_dipMinutes_10 : Dc cX3_dipMinutes 10 1 11 (.aload_n 0) := ⟨by decide +kernel, rfl⟩
theorem dX3_dipMinutes_11 : Dc cX3_dipMinutes 11 1 12 (.iload_n 1) := ⟨by decide +kernel, rfl⟩
theorem dX3_dipMinutes_12 : Dc cX3_dipMinutes 12 3 15 (.invokevirtual 98) := ⟨by decide +kernel, rfl⟩
theorem dX3_dipMinutes_15 : Dc cX3_dipMinutes 15 3 18 (.goto 4) := ⟨by decide +kernel, rfl⟩
theorem dX3_dipMinutes_18 : Dc cX3_dipMinutes 18 1 19 (.iload_n 2) := ⟨by decide +kernel, rfl⟩
theorem dX3_dipMinutes_19 : Dc cX3_dipMinutes 19 1 20 (.ireturn) := ⟨by decide +kernel, rfl⟩
theorem dX3_dipVarnish_0 : Dc cX3_dipVarnish 0 1 1 (.aload_n 0) := ⟨by decide +kernel, rfl⟩
theorem dX3_dipVarnish_1 : Dc cX3_dipVarnish 1 1 2 (.iload_n 1) := ⟨by decide +kernel, rfl⟩
theorem dX3_dipVarnish_2 : Dc cX3_dipVarnish 2 3 5 (.invokevirtual 95) := ⟨by decide +kernel, rfl⟩
theorem dX3_dipVarnish_5 : Dc cX3_dipVarnish 5 1 6 (.istore_n 2) := ⟨by decide +kernel, rfl⟩
theorem dX3_dipVarnish_6 : Dc cX3_dipVarnish 6 1 7 (.iload_n 2) := ⟨by decide +kernel, rfl⟩
theorem dX3_dipVarnish_7 : Dc cX3_dipVarnish 7 3 10 (.ifCond .ne 11) := ⟨by decide +kernel, rfl⟩
theorem dX3_dipVarnish_10 : Dc cX3_dipVarnish 10 1 11 (.aload_n 0) := ⟨by decide +kernel, rfl⟩
theorem dX3_dipVarnish_11 : Dc cX3_dipVarnish 11 1 12 (.iload_n 1) := ⟨by decide +kernel, rfl⟩
theorem dX3_dipVarnish_12 : Dc cX3_dipVarnish 12 3 15 (.invokevirtual 101) := ⟨by decide +kernel, rfl⟩
theorem dX3_dipVarnish_15 : Dc cX3_dipVarnish 15 3 18 (.goto 4) := ⟨by decide +kernel, rfl⟩
theorem dX3_dipVarnish_18 : Dc cX3_dipVarnish 18 1 19 (.iload_n 2) := ⟨by decide +kernel, rfl⟩
theorem dX3_dipVarnish_19 : Dc cX3_dipVarnish 19 1 20 (.ireturn) := ⟨by decide +kernel, rfl⟩
theorem dX3_obstacles_0 : Dc cX3_obstacles 0 1 1 (.aload_n 0) := ⟨by decide +kernel, rfl⟩
theorem dX3_obstacles_1 : Dc cX3_obstacles 1 3 4 (.invokevirtual 88) := ⟨by decide +kernel, rfl⟩
theorem dX3_obstacles_4 : Dc cX3_obstacles 4 1 5 (.ireturn) := ⟨by decide +kernel, rfl⟩
theorem dX3_errorCount_0 : Dc cX3_errorCount 0 1 1 (.iload_n 1) := ⟨by decide +kernel, rfl⟩
theorem dX3_errorCount_1 : Dc cX3_errorCount 1 2 3 (.bipush (-5)) := ⟨by decide +kernel, rfl⟩
theorem dX3_errorCount_3 : Dc cX3_errorCount 3 2 5 (.bipush (-2)) := ⟨by decide +kernel, rfl⟩
theorem dX3_errorCount_5 : Dc cX3_errorCount 5 3 8 (.invokestatic 34) := ⟨by decide +kernel, rfl⟩
theorem dX3_errorCount_8 : Dc cX3_errorCount 8 3 11 (.ifCond .eq 15) := ⟨by decide +kernel, rfl⟩
theorem dX3_errorCount_11 : Dc cX3_errorCount 11 1 12 (.aload_n 0) := ⟨by decide +kernel, rfl⟩
theorem dX3_errorCount_12 : Dc cX3_errorCount 12 3 15 (.getfield 16) := ⟨by decide +kernel, rfl⟩
theorem dX3_errorCount_15 : Dc cX3_errorCount 15 2 17 (.bipush (-2)) := ⟨by decide +kernel, rfl⟩
theorem dX3_errorCount_17 : Dc cX3_errorCount 17 1 18 (.iload_n 1) := ⟨by decide +kernel, rfl⟩
theorem dX3_errorCount_18 : Dc cX3_errorCount 18 1 19 (.isub) := ⟨by decide +kernel, rfl⟩
theorem dX3_errorCount_19 : Dc cX3_errorCount 19 1 20 (.iaload) := ⟨by decide +kernel, rfl⟩
theorem dX3_errorCount_20 : Dc cX3_errorCount 20 3 23 (.goto 9) := ⟨by decide +kernel, rfl⟩
theorem dX3_errorCount_23 : Dc cX3_errorCount 23 1 24 (.aload_n 0) := ⟨by decide +kernel, rfl⟩
theorem dX3_errorCount_24 : Dc cX3_errorCount 24 2 26 (.bipush (-2)) := ⟨by decide +kernel, rfl⟩
theorem dX3_errorCount_26 : Dc cX3_errorCount 26 3 29 (.invokevirtual 42) := ⟨by decide +kernel, rfl⟩
theorem dX3_errorCount_29 : Dc cX3_errorCount 29 1 30 (.ireturn) := ⟨by decide +kernel, rfl⟩
theorem dX3_mix_0 : Dc cX3_mix 0 1 1 (.aload_n 0) := ⟨by decide +kernel, rfl⟩
theorem dX3_mix_1 : Dc cX3_mix 1 3 4 (.ldc2_w 104) := ⟨by decide +kernel, rfl⟩
theorem dX3_mix_4 : Dc cX3_mix 4 1 5 (.aload_n 0) := ⟨by decide +kernel, rfl⟩
theorem dX3_mix_5 : Dc cX3_mix 5 3 8 (.getfield 106) := ⟨by decide +kernel, rfl⟩
theorem dX3_mix_8 : Dc cX3_mix 8 1 9 (.lmul) := ⟨by decide +kernel, rfl⟩
theorem dX3_mix_9 : Dc cX3_mix 9 1 10 (.iload_n 1) := ⟨by decide +kernel, rfl⟩
theorem dX3_mix_10 : Dc cX3_mix 10 1 11 (.i2l) := ⟨by decide +kernel, rfl⟩
theorem dX3_mix_11 : Dc cX3_mix 11 1 12 (.ladd) := ⟨by decide +kernel, rfl⟩
theorem dX3_mix_12 : Dc cX3_mix 12 3 15 (.putfield 106) := ⟨by decide +kernel, rfl⟩
theorem dX3_mix_15 : Dc cX3_mix 15 1 16 (.return_) := ⟨by decide +kernel, rfl⟩
theorem dX3_mixPrints_0 : Dc cX3_mixPrints 0 1 1 (.aload_n 0) := ⟨by decide +kernel, rfl⟩
theorem dX3_mixPrints_1 : Dc cX3_mixPrints 1 1 2 (.aload_n 0) := ⟨by decide +kernel, rfl⟩
theorem dX3_mixPrints_2 : Dc cX3_mixPrints 2 3 5 (.getfield 7) := ⟨by decide +kernel, rfl⟩
theorem dX3_mixPrints_5 : Dc cX3_mixPrints 5 1 6 (.iconst 4) := ⟨by decide +kernel, rfl⟩
theorem dX3_mixPrints_6 : Dc cX3_mixPrints 6 1 7 (.iaload) := ⟨by decide +kernel, rfl⟩
theorem dX3_mixPrints_7 : Dc cX3_mixPrints 7 3 10 (.invokevirtual 110) := ⟨by decide +kernel, rfl⟩
theorem dX3_mixPrints_10 : Dc cX3_mixPrints 10 1 11 (.iconst 0) := ⟨by decide +kernel, rfl⟩
theorem dX3_mixPrints_11 : Dc cX3_mixPrints 11 1 12 (.istore_n 1) := ⟨by decide +kernel, rfl⟩
theorem dX3_mixPrints_12 : Dc cX3_mixPrints 12 1 13 (.iload_n 1) := ⟨by decide +kernel, rfl⟩
theorem dX3_mixPrints_13 : Dc cX3_mixPrints 13 1 14 (.aload_n 0) := ⟨by decide +kernel, rfl⟩
theorem dX3_mixPrints_14 : Dc cX3_mixPrints 14 3 17 (.getfield 7) := ⟨by decide +kernel, rfl⟩
theorem dX3_mixPrints_17 : Dc cX3_mixPrints 17 1 18 (.iconst 4) := ⟨by decide +kernel, rfl⟩
theorem dX3_mixPrints_18 : Dc cX3_mixPrints 18 1 19 (.iaload) := ⟨by decide +kernel, rfl⟩
theorem dX3_mixPrints_19 : Dc cX3_mixPrints 19 3 22 (.if_icmp .ge 50) := ⟨by decide +kernel, rfl⟩
theorem dX3_mixPrints_22 : Dc cX3_mixPrints 22 1 23 (.aload_n 0) := ⟨by decide +kernel, rfl⟩
theorem dX3_mixPrints_23 : Dc cX3_mixPrints 23 1 24 (.aload_n 0) := ⟨by decide +kernel, rfl⟩
theorem dX3_mixPrints_24 : Dc cX3_mixPrints 24 3 27 (.getfield 7) := ⟨by decide +kernel, rfl⟩
theorem dX3_mixPrints_27 : Dc cX3_mixPrints 27 2 29 (.bipush 16) := ⟨by decide +kernel, rfl⟩
theorem dX3_mixPrints_29 : Dc cX3_mixPrints 29 1 30 (.iload_n 1) := ⟨by decide +kernel, rfl⟩
theorem dX3_mixPrints_30 : Dc cX3_mixPrints 30 1 31 (.iadd) := ⟨by decide +kernel, rfl⟩
theorem dX3_mixPrints_31 : Dc cX3_mixPrints 31 1 32 (.iaload) := ⟨by decide +kernel, rfl⟩
theorem dX3_mixPrints_32 : Dc cX3_mixPrints 32 3 35 (.invokevirtual 110) := ⟨by decide +kernel, rfl⟩
theorem dX3_mixPrints_35 : Dc cX3_mixPrints 35 1 36 (.iconst 0) := ⟨by decide +kernel, rfl⟩
theorem dX3_mixPrints_36 : Dc cX3_mixPrints 36 1 37 (.istore_n 2) := ⟨by decide +kernel, rfl⟩
theorem dX3_mixPrints_37 : Dc cX3_mixPrints 37 1 38 (.iload_n 2) := ⟨by decide +kernel, rfl⟩
theorem dX3_mixPrints_38 : Dc cX3_mixPrints 38 1 39 (.aload_n 0) := ⟨by decide +kernel, rfl⟩
theorem dX3_mixPrints_39 : Dc cX3_mixPrints 39 3 42 (.getfield 7) := ⟨by decide +kernel, rfl⟩
theorem dX3_mixPrints_42 : Dc cX3_mixPrints 42 1 43 (.iconst 0) := ⟨by decide +kernel, rfl⟩
theorem dX3_mixPrints_43 : Dc cX3_mixPrints 43 1 44 (.iaload) := ⟨by decide +kernel, rfl⟩
theorem dX3_mixPrints_44 : Dc cX3_mixPrints 44 3 47 (.if_icmp .ge 19) := ⟨by decide +kernel, rfl⟩
theorem dX3_mixPrints_47 : Dc cX3_mixPrints 47 1 48 (.aload_n 0) := ⟨by decide +kernel, rfl⟩
theorem dX3_mixPrints_48 : Dc cX3_mixPrints 48 1 49 (.aload_n 0) := ⟨by decide +kernel, rfl⟩
theorem dX3_mixPrints_49 : Dc cX3_mixPrints 49 1 50 (.iload_n 1) := ⟨by decide +kernel, rfl⟩
theorem dX3_mixPrints_50 : Dc cX3_mixPrints 50 1 51 (.iload_n 2) := ⟨by decide +kernel, rfl⟩
theorem dX3_mixPrints_51 : Dc cX3_mixPrints 51 3 54 (.invokevirtual 65) := ⟨by decide +kernel, rfl⟩
theorem dX3_mixPrints_54 : Dc cX3_mixPrints 54 3 57 (.invokevirtual 110) := ⟨by decide +kernel, rfl⟩
theorem dX3_mixPrints_57 : Dc cX3_mixPrints 57 3 60 (.iinc 2 1) := ⟨by decide +kernel, rfl⟩
theorem dX3_mixPrints_60 : Dc cX3_mixPrints 60 3 63 (.goto (-23)) := ⟨by decide +kernel, rfl⟩
theorem dX3_mixPrints_63 : Dc cX3_mixPrints 63 3 66 (.iinc 1 1) := ⟨by decide +kernel, rfl⟩
theorem dX3_mixPrints_66 : Dc cX3_mixPrints 66 3 69 (.goto (-54)) := ⟨by decide +kernel, rfl⟩
theorem dX3_mixPrints_69 : Dc cX3_mixPrints 69 1 70 (.return_) := ⟨by decide +kernel, rfl⟩
theorem dX3_mixPlan_0 : Dc cX3_mixPlan 0 1 1 (.aload_n 0) := ⟨by decide +kernel, rfl⟩
theorem dX3_mixPlan_1 : Dc cX3_mixPlan 1 3 4 (.invokevirtual 92) := ⟨by decide +kernel, rfl⟩
theorem dX3_mixPlan_4 : Dc cX3_mixPlan 4 1 5 (.aload_n 0) := ⟨by decide +kernel, rfl⟩
theorem dX3_mixPlan_5 : Dc cX3_mixPlan 5 1 6 (.aload_n 0) := ⟨by decide +kernel, rfl⟩
theorem dX3_mixPlan_6 : Dc cX3_mixPlan 6 3 9 (.getfield 82) := ⟨by decide +kernel, rfl⟩
theorem dX3_mixPlan_9 : Dc cX3_mixPlan 9 3 12 (.invokevirtual 110) := ⟨by decide +kernel, rfl⟩
theorem dX3_mixPlan_12 : Dc cX3_mixPlan 12 1 13 (.iconst 0) := ⟨by decide +kernel, rfl⟩
theorem dX3_mixPlan_13 : Dc cX3_mixPlan 13 1 14 (.istore_n 1) := ⟨by decide +kernel, rfl⟩
theorem dX3_mixPlan_14 : Dc cX3_mixPlan 14 1 15 (.iload_n 1) := ⟨by decide +kernel, rfl⟩
theorem dX3_mixPlan_15 : Dc cX3_mixPlan 15 1 16 (.aload_n 0) := ⟨by decide +kernel, rfl⟩
theorem dX3_mixPlan_16 : Dc cX3_mixPlan 16 3 19 (.getfield 82) := ⟨by decide +kernel, rfl⟩
theorem dX3_mixPlan_19 : Dc cX3_mixPlan 19 3 22 (.if_icmp .ge 27) := ⟨by decide +kernel, rfl⟩
theorem dX3_mixPlan_22 : Dc cX3_mixPlan 22 1 23 (.aload_n 0) := ⟨by decide +kernel, rfl⟩
theorem dX3_mixPlan_23 : Dc cX3_mixPlan 23 1 24 (.aload_n 0) := ⟨by decide +kernel, rfl⟩
theorem dX3_mixPlan_24 : Dc cX3_mixPlan 24 1 25 (.iload_n 1) := ⟨by decide +kernel, rfl⟩
theorem dX3_mixPlan_25 : Dc cX3_mixPlan 25 3 28 (.invokevirtual 98) := ⟨by decide +kernel, rfl⟩
theorem dX3_mixPlan_28 : Dc cX3_mixPlan 28 3 31 (.invokevirtual 110) := ⟨by decide +kernel, rfl⟩
theorem dX3_mixPlan_31 : Dc cX3_mixPlan 31 1 32 (.aload_n 0) := ⟨by decide +kernel, rfl⟩
theorem dX3_mixPlan_32 : Dc cX3_mixPlan 32 1 33 (.aload_n 0) := ⟨by decide +kernel, rfl⟩
theorem dX3_mixPlan_33 : Dc cX3_mixPlan 33 1 34 (.iload_n 1) := ⟨by decide +kernel, rfl⟩
theorem dX3_mixPlan_34 : Dc cX3_mixPlan 34 3 37 (.invokevirtual 101) := ⟨by decide +kernel, rfl⟩
theorem dX3_mixPlan_37 : Dc cX3_mixPlan 37 3 40 (.invokevirtual 110) := ⟨by decide +kernel, rfl⟩
theorem dX3_mixPlan_40 : Dc cX3_mixPlan 40 3 43 (.iinc 1 1) := ⟨by decide +kernel, rfl⟩
theorem dX3_mixPlan_43 : Dc cX3_mixPlan 43 3 46 (.goto (-29)) := ⟨by decide +kernel, rfl⟩
theorem dX3_mixPlan_46 : Dc cX3_mixPlan 46 1 47 (.return_) := ⟨by decide +kernel, rfl⟩
theorem dX3_digest_0 : Dc cX3_digest 0 1 1 (.aload_n 0) := ⟨by decide +kernel, rfl⟩
theorem dX3_digest_1 : Dc cX3_digest 1 3 4 (.ldc2_w 114) := ⟨by decide +kernel, rfl⟩
theorem dX3_digest_4 : Dc cX3_digest 4 3 7 (.putfield 106) := ⟨by decide +kernel, rfl⟩
theorem dX3_digest_7 : Dc cX3_digest 7 1 8 (.iconst 0) := ⟨by decide +kernel, rfl⟩
theorem dX3_digest_8 : Dc cX3_digest 8 1 9 (.istore_n 1) := ⟨by decide +kernel, rfl⟩
theorem dX3_digest_9 : Dc cX3_digest 9 1 10 (.iload_n 1) := ⟨by decide +kernel, rfl⟩
theorem dX3_digest_10 : Dc cX3_digest 10 1 11 (.iconst 4) := ⟨by decide +kernel, rfl⟩
theorem dX3_digest_11 : Dc cX3_digest 11 3 14 (.if_icmp .ge 19) := ⟨by decide +kernel, rfl⟩
theorem dX3_digest_14 : Dc cX3_digest 14 1 15 (.aload_n 0) := ⟨by decide +kernel, rfl⟩
theorem dX3_digest_15 : Dc cX3_digest 15 1 16 (.aload_n 0) := ⟨by decide +kernel, rfl⟩
theorem dX3_digest_16 : Dc cX3_digest 16 3 19 (.getfield 16) := ⟨by decide +kernel, rfl⟩
theorem dX3_digest_19 : Dc cX3_digest 19 1 20 (.iload_n 1) := ⟨by decide +kernel, rfl⟩
theorem dX3_digest_20 : Dc cX3_digest 20 1 21 (.iaload) := ⟨by decide +kernel, rfl⟩
theorem dX3_digest_21 : Dc cX3_digest 21 3 24 (.invokevirtual 110) := ⟨by decide +kernel, rfl⟩
theorem dX3_digest_24 : Dc cX3_digest 24 3 27 (.iinc 1 1) := ⟨by decide +kernel, rfl⟩
theorem dX3_digest_27 : Dc cX3_digest 27 3 30 (.goto (-18)) := ⟨by decide +kernel, rfl⟩
theorem dX3_digest_30 : Dc cX3_digest 30 1 31 (.aload_n 0) := ⟨by decide +kernel, rfl⟩
theorem dX3_digest_31 : Dc cX3_digest 31 1 32 (.aload_n 0) := ⟨by decide +kernel, rfl⟩
theorem dX3_digest_32 : Dc cX3_digest 32 3 35 (.getfield 7) := ⟨by decide +kernel, rfl⟩
theorem dX3_digest_35 : Dc cX3_digest 35 1 36 (.iconst 1) := ⟨by decide +kernel, rfl⟩
theorem dX3_digest_36 : Dc cX3_digest 36 1 37 (.iaload) := ⟨by decide +kernel, rfl⟩
theorem dX3_digest_37 : Dc cX3_digest 37 3 40 (.invokevirtual 110) := ⟨by decide +kernel, rfl⟩
theorem dX3_digest_40 : Dc cX3_digest 40 1 41 (.aload_n 0) := ⟨by decide +kernel, rfl⟩
theorem dX3_digest_41 : Dc cX3_digest 41 1 42 (.aload_n 0) := ⟨by decide +kernel, rfl⟩
theorem dX3_digest_42 : Dc cX3_digest 42 3 45 (.getfield 7) := ⟨by decide +kernel, rfl⟩
theorem dX3_digest_45 : Dc cX3_digest 45 1 46 (.iconst 0) := ⟨by decide +kernel, rfl⟩
theorem dX3_digest_46 : Dc cX3_digest 46 1 47 (.iaload) := ⟨by decide +kernel, rfl⟩
theorem dX3_digest_47 : Dc cX3_digest 47 3 50 (.invokevirtual 110) := ⟨by decide +kernel, rfl⟩
theorem dX3_digest_50 : Dc cX3_digest 50 1 51 (.iconst 0) := ⟨by decide +kernel, rfl⟩
theorem dX3_digest_51 : Dc cX3_digest 51 1 52 (.istore_n 1) := ⟨by decide +kernel, rfl⟩
theorem dX3_digest_52 : Dc cX3_digest 52 1 53 (.iload_n 1) := ⟨by decide +kernel, rfl⟩
theorem dX3_digest_53 : Dc cX3_digest 53 1 54 (.aload_n 0) := ⟨by decide +kernel, rfl⟩
theorem dX3_digest_54 : Dc cX3_digest 54 3 57 (.getfield 7) := ⟨by decide +kernel, rfl⟩
theorem dX3_digest_57 : Dc cX3_digest 57 1 58 (.iconst 0) := ⟨by decide +kernel, rfl⟩
theorem dX3_digest_58 : Dc cX3_digest 58 1 59 (.iaload) := ⟨by decide +kernel, rfl⟩
theorem dX3_digest_59 : Dc cX3_digest 59 3 62 (.if_icmp .ge 32) := ⟨by decide +kernel, rfl⟩
theorem dX3_digest_62 : Dc cX3_digest 62 1 63 (.aload_n 0) := ⟨by decide +kernel, rfl⟩
theorem dX3_digest_63 : Dc cX3_digest 63 1 64 (.aload_n 0) := ⟨by decide +kernel, rfl⟩
theorem dX3_digest_64 : Dc cX3_digest 64 3 67 (.getfield 7) := ⟨by decide +kernel, rfl⟩
theorem dX3_digest_67 : Dc cX3_digest 67 2 69 (.bipush 6) := ⟨by decide +kernel, rfl⟩
theorem dX3_digest_69 : Dc cX3_digest 69 1 70 (.iload_n 1) := ⟨by decide +kernel, rfl⟩
theorem dX3_digest_70 : Dc cX3_digest 70 1 71 (.iadd) := ⟨by decide +kernel, rfl⟩
theorem dX3_digest_71 : Dc cX3_digest 71 1 72 (.iaload) := ⟨by decide +kernel, rfl⟩
theorem dX3_digest_72 : Dc cX3_digest 72 3 75 (.invokevirtual 110) := ⟨by decide +kernel, rfl⟩
theorem dX3_digest_75 : Dc cX3_digest 75 1 76 (.aload_n 0) := ⟨by decide +kernel, rfl⟩
theorem dX3_digest_76 : Dc cX3_digest 76 1 77 (.aload_n 0) := ⟨by decide +kernel, rfl⟩
theorem dX3_digest_77 : Dc cX3_digest 77 3 80 (.getfield 19) := ⟨by decide +kernel, rfl⟩
theorem dX3_digest_80 : Dc cX3_digest 80 1 81 (.iload_n 1) := ⟨by decide +kernel, rfl⟩
theorem dX3_digest_81 : Dc cX3_digest 81 1 82 (.iaload) := ⟨by decide +kernel, rfl⟩
theorem dX3_digest_82 : Dc cX3_digest 82 3 85 (.invokevirtual 110) := ⟨by decide +kernel, rfl⟩
theorem dX3_digest_85 : Dc cX3_digest 85 3 88 (.iinc 1 1) := ⟨by decide +kernel, rfl⟩
theorem dX3_digest_88 : Dc cX3_digest 88 3 91 (.goto (-36)) := ⟨by decide +kernel, rfl⟩
theorem dX3_digest_91 : Dc cX3_digest 91 1 92 (.aload_n 0) := ⟨by decide +kernel, rfl⟩
theorem dX3_digest_92 : Dc cX3_digest 92 1 93 (.aload_n 0) := ⟨by decide +kernel, rfl⟩
theorem dX3_digest_93 : Dc cX3_digest 93 3 96 (.getfield 7) := ⟨by decide +kernel, rfl⟩
theorem dX3_digest_96 : Dc cX3_digest 96 1 97 (.iconst 5) := ⟨by decide +kernel, rfl⟩
theorem dX3_digest_97 : Dc cX3_digest 97 1 98 (.iaload) := ⟨by decide +kernel, rfl⟩
theorem dX3_digest_98 : Dc cX3_digest 98 3 101 (.invokevirtual 110) := ⟨by decide +kernel, rfl⟩
theorem dX3_digest_101 : Dc cX3_digest 101 1 102 (.aload_n 0) := ⟨by decide +kernel, rfl⟩
theorem dX3_digest_102 : Dc cX3_digest 102 3 105 (.invokevirtual 116) := ⟨by decide +kernel, rfl⟩
theorem dX3_digest_105 : Dc cX3_digest 105 1 106 (.aload_n 0) := ⟨by decide +kernel, rfl⟩
theorem dX3_digest_106 : Dc cX3_digest 106 1 107 (.aload_n 0) := ⟨by decide +kernel, rfl⟩
theorem dX3_digest_107 : Dc cX3_digest 107 3 110 (.invokevirtual 88) := ⟨by decide +kernel, rfl⟩
theorem dX3_digest_110 : Dc cX3_digest 110 3 113 (.invokevirtual 110) := ⟨by decide +kernel, rfl⟩
theorem dX3_digest_113 : Dc cX3_digest 113 1 114 (.aload_n 0) := ⟨by decide +kernel, rfl⟩
theorem dX3_digest_114 : Dc cX3_digest 114 3 117 (.invokevirtual 88) := ⟨by decide +kernel, rfl⟩
theorem dX3_digest_117 : Dc cX3_digest 117 3 120 (.ifCond .ne 7) := ⟨by decide +kernel, rfl⟩
theorem dX3_digest_120 : Dc cX3_digest 120 1 121 (.aload_n 0) := ⟨by decide +kernel, rfl⟩
theorem dX3_digest_121 : Dc cX3_digest 121 3 124 (.invokevirtual 119) := ⟨by decide +kernel, rfl⟩
theorem dX3_digest_124 : Dc cX3_digest 124 1 125 (.aload_n 0) := ⟨by decide +kernel, rfl⟩
theorem dX3_digest_125 : Dc cX3_digest 125 1 126 (.aload_n 0) := ⟨by decide +kernel, rfl⟩
theorem dX3_digest_126 : Dc cX3_digest 126 1 127 (.iconst 1) := ⟨by decide +kernel, rfl⟩
theorem dX3_digest_127 : Dc cX3_digest 127 1 128 (.aload_n 0) := ⟨by decide +kernel, rfl⟩
theorem dX3_digest_128 : Dc cX3_digest 128 3 131 (.getfield 7) := ⟨by decide +kernel, rfl⟩
theorem dX3_digest_131 : Dc cX3_digest 131 1 132 (.iconst 4) := ⟨by decide +kernel, rfl⟩
theorem dX3_digest_132 : Dc cX3_digest 132 1 133 (.iaload) := ⟨by decide +kernel, rfl⟩
theorem dX3_digest_133 : Dc cX3_digest 133 1 134 (.ishl) := ⟨by decide +kernel, rfl⟩
theorem dX3_digest_134 : Dc cX3_digest 134 1 135 (.iconst 1) := ⟨by decide +kernel, rfl⟩
theorem dX3_digest_135 : Dc cX3_digest 135 1 136 (.isub) := ⟨by decide +kernel, rfl⟩
theorem dX3_digest_136 : Dc cX3_digest 136 3 139 (.invokevirtual 73) := ⟨by decide +kernel, rfl⟩
theorem dX3_digest_139 : Dc cX3_digest 139 3 142 (.invokevirtual 110) := ⟨by decide +kernel, rfl⟩
theorem dX3_digest_142 : Dc cX3_digest 142 1 143 (.aload_n 0) := ⟨by decide +kernel, rfl⟩
theorem dX3_digest_143 : Dc cX3_digest 143 1 144 (.aload_n 0) := ⟨by decide +kernel, rfl⟩
theorem dX3_digest_144 : Dc cX3_digest 144 3 147 (.getfield 38) := ⟨by decide +kernel, rfl⟩
theorem dX3_digest_147 : Dc cX3_digest 147 3 150 (.invokevirtual 110) := ⟨by decide +kernel, rfl⟩
theorem dX3_digest_150 : Dc cX3_digest 150 1 151 (.aload_n 0) := ⟨by decide +kernel, rfl⟩
theorem dX3_digest_151 : Dc cX3_digest 151 3 154 (.getfield 106) := ⟨by decide +kernel, rfl⟩
theorem dX3_digest_154 : Dc cX3_digest 154 1 155 (.lreturn) := ⟨by decide +kernel, rfl⟩
end
section
theorem dJxf58ca_isNaN_12338_0 : Dc cJxf58ca_isNaN_12338 0 1 1 (.fload_n 0) := ⟨by decide +kernel, rfl⟩
theorem dJxf58ca_isNaN_12338_1 : Dc cJxf58ca_isNaN_12338 1 1 2 (.fload_n 0) := ⟨by decide +kernel, rfl⟩
theorem dJxf58ca_isNaN_12338_2 : Dc cJxf58ca_isNaN_12338 2 1 3 (.fcmp .l) := ⟨by decide +kernel, rfl⟩
theorem dJxf58ca_isNaN_12338_3 : Dc cJxf58ca_isNaN_12338 3 3 6 (.ifCond .eq 7) := ⟨by decide +kernel, rfl⟩
theorem dJxf58ca_isNaN_12338_6 : Dc cJxf58ca_isNaN_12338 6 1 7 (.iconst 1) := ⟨by decide +kernel, rfl⟩
theorem dJxf58ca_isNaN_12338_7 : Dc cJxf58ca_isNaN_12338 7 3 10 (.goto 4) := ⟨by decide +kernel, rfl⟩
theorem dJxf58ca_isNaN_12338_10 : Dc cJxf58ca_isNaN_12338 10 1 11 (.iconst 0) := ⟨by decide +kernel, rfl⟩
theorem dJxf58ca_isNaN_12338_11 : Dc cJxf58ca_isNaN_12338 11 1 12 (.ireturn) := ⟨by decide +kernel, rfl⟩
theorem dJxf58ca_floatToIntBits_5c35a_0 : Dc cJxf58ca_floatToIntBits_5c35a 0 1 1 (.fload_n 0) := ⟨by decide +kernel, rfl⟩
theorem dJxf58ca_floatToIntBits_5c35a_1 : Dc cJxf58ca_floatToIntBits_5c35a 1 3 4 (.invokestatic 59) := ⟨by decide +kernel, rfl⟩
theorem dJxf58ca_floatToIntBits_5c35a_4 : Dc cJxf58ca_floatToIntBits_5c35a 4 3 7 (.ifCond .ne 8) := ⟨by decide +kernel, rfl⟩
theorem dJxf58ca_floatToIntBits_5c35a_7 : Dc cJxf58ca_floatToIntBits_5c35a 7 1 8 (.fload_n 0) := ⟨by decide +kernel, rfl⟩
theorem dJxf58ca_floatToIntBits_5c35a_8 : Dc cJxf58ca_floatToIntBits_5c35a 8 3 11 (.invokestatic 74) := ⟨by decide +kernel, rfl⟩
theorem dJxf58ca_floatToIntBits_5c35a_11 : Dc cJxf58ca_floatToIntBits_5c35a 11 1 12 (.ireturn) := ⟨by decide +kernel, rfl⟩
theorem dJxf58ca_floatToIntBits_5c35a_12 : Dc cJxf58ca_floatToIntBits_5c35a 12 2 14 (.ldc 77) := ⟨by decide +kernel, rfl⟩
theorem dJxf58ca_floatToIntBits_5c35a_14 : Dc cJxf58ca_floatToIntBits_5c35a 14 1 15 (.ireturn) := ⟨by decide +kernel, rfl⟩
theorem dJ6_bitCount_0f7a4_0 : Dc cJ6_bitCount_0f7a4 0 1 1 (.iload_n 0) := ⟨by decide +kernel, rfl⟩
theorem dJ6_bitCount_0f7a4_1 : Dc cJ6_bitCount_0f7a4 1 1 2 (.iload_n 0) := ⟨by decide +kernel, rfl⟩
theorem dJ6_bitCount_0f7a4_2 : Dc cJ6_bitCount_0f7a4 2 1 3 (.iconst 1) := ⟨by decide +kernel, rfl⟩
theorem dJ6_bitCount_0f7a4_3 : Dc cJ6_bitCount_0f7a4 3 1 4 (.iushr) := ⟨by decide +kernel, rfl⟩
theorem dJ6_bitCount_0f7a4_4 : Dc cJ6_bitCount_0f7a4 4 3 7 (.ldc_w 265) := ⟨by decide +kernel, rfl⟩
theorem dJ6_bitCount_0f7a4_7 : Dc cJ6_bitCount_0f7a4 7 1 8 (.iand) := ⟨by decide +kernel, rfl⟩
theorem dJ6_bitCount_0f7a4_8 : Dc cJ6_bitCount_0f7a4 8 1 9 (.isub) := ⟨by decide +kernel, rfl⟩
theorem dJ6_bitCount_0f7a4_9 : Dc cJ6_bitCount_0f7a4 9 1 10 (.istore_n 0) := ⟨by decide +kernel, rfl⟩
theorem dJ6_bitCount_0f7a4_10 : Dc cJ6_bitCount_0f7a4 10 1 11 (.iload_n 0) := ⟨by decide +kernel, rfl⟩
theorem dJ6_bitCount_0f7a4_11 : Dc cJ6_bitCount_0f7a4 11 3 14 (.ldc_w 266) := ⟨by decide +kernel, rfl⟩
theorem dJ6_bitCount_0f7a4_14 : Dc cJ6_bitCount_0f7a4 14 1 15 (.iand) := ⟨by decide +kernel, rfl⟩
theorem dJ6_bitCount_0f7a4_15 : Dc cJ6_bitCount_0f7a4 15 1 16 (.iload_n 0) := ⟨by decide +kernel, rfl⟩
theorem dJ6_bitCount_0f7a4_16 : Dc cJ6_bitCount_0f7a4 16 1 17 (.iconst 2) := ⟨by decide +kernel, rfl⟩
theorem dJ6_bitCount_0f7a4_17 : Dc cJ6_bitCount_0f7a4 17 1 18 (.iushr) := ⟨by decide +kernel, rfl⟩
theorem dJ6_bitCount_0f7a4_18 : Dc cJ6_bitCount_0f7a4 18 3 21 (.ldc_w 266) := ⟨by decide +kernel, rfl⟩
theorem dJ6_bitCount_0f7a4_21 : Dc cJ6_bitCount_0f7a4 21 1 22 (.iand) := ⟨by decide +kernel, rfl⟩
theorem dJ6_bitCount_0f7a4_22 : Dc cJ6_bitCount_0f7a4 22 1 23 (.iadd) := ⟨by decide +kernel, rfl⟩
theorem dJ6_bitCount_0f7a4_23 : Dc cJ6_bitCount_0f7a4 23 1 24 (.istore_n 0) := ⟨by decide +kernel, rfl⟩
theorem dJ6_bitCount_0f7a4_24 : Dc cJ6_bitCount_0f7a4 24 1 25 (.iload_n 0) := ⟨by decide +kernel, rfl⟩
theorem dJ6_bitCount_0f7a4_25 : Dc cJ6_bitCount_0f7a4 25 1 26 (.iload_n 0) := ⟨by decide +kernel, rfl⟩
theorem dJ6_bitCount_0f7a4_26 : Dc cJ6_bitCount_0f7a4 26 1 27 (.iconst 4) := ⟨by decide +kernel, rfl⟩
theorem dJ6_bitCount_0f7a4_27 : Dc cJ6_bitCount_0f7a4 27 1 28 (.iushr) := ⟨by decide +kernel, rfl⟩
theorem dJ6_bitCount_0f7a4_28 : Dc cJ6_bitCount_0f7a4 28 1 29 (.iadd) := ⟨by decide +kernel, rfl⟩
theorem dJ6_bitCount_0f7a4_29 : Dc cJ6_bitCount_0f7a4 29 3 32 (.ldc_w 267) := ⟨by decide +kernel, rfl⟩
theorem dJ6_bitCount_0f7a4_32 : Dc cJ6_bitCount_0f7a4 32 1 33 (.iand) := ⟨by decide +kernel, rfl⟩
theorem dJ6_bitCount_0f7a4_33 : Dc cJ6_bitCount_0f7a4 33 1 34 (.istore_n 0) := ⟨by decide +kernel, rfl⟩
theorem dJ6_bitCount_0f7a4_34 : Dc cJ6_bitCount_0f7a4 34 1 35 (.iload_n 0) := ⟨by decide +kernel, rfl⟩
theorem dJ6_bitCount_0f7a4_35 : Dc cJ6_bitCount_0f7a4 35 1 36 (.iload_n 0) := ⟨by decide +kernel, rfl⟩
theorem dJ6_bitCount_0f7a4_36 : Dc cJ6_bitCount_0f7a4 36 2 38 (.bipush 8) := ⟨by decide +kernel, rfl⟩
theorem dJ6_bitCount_0f7a4_38 : Dc cJ6_bitCount_0f7a4 38 1 39 (.iushr) := ⟨by decide +kernel, rfl⟩
theorem dJ6_bitCount_0f7a4_39 : Dc cJ6_bitCount_0f7a4 39 1 40 (.iadd) := ⟨by decide +kernel, rfl⟩
theorem dJ6_bitCount_0f7a4_40 : Dc cJ6_bitCount_0f7a4 40 1 41 (.istore_n 0) := ⟨by decide +kernel, rfl⟩
theorem dJ6_bitCount_0f7a4_41 : Dc cJ6_bitCount_0f7a4 41 1 42 (.iload_n 0) := ⟨by decide +kernel, rfl⟩
theorem dJ6_bitCount_0f7a4_42 : Dc cJ6_bitCount_0f7a4 42 1 43 (.iload_n 0) := ⟨by decide +kernel, rfl⟩
theorem dJ6_bitCount_0f7a4_43 : Dc cJ6_bitCount_0f7a4 43 2 45 (.bipush 16) := ⟨by decide +kernel, rfl⟩
theorem dJ6_bitCount_0f7a4_45 : Dc cJ6_bitCount_0f7a4 45 1 46 (.iushr) := ⟨by decide +kernel, rfl⟩
theorem dJ6_bitCount_0f7a4_46 : Dc cJ6_bitCount_0f7a4 46 1 47 (.iadd) := ⟨by decide +kernel, rfl⟩
theorem dJ6_bitCount_0f7a4_47 : Dc cJ6_bitCount_0f7a4 47 1 48 (.istore_n 0) := ⟨by decide +kernel, rfl⟩
theorem dJ6_bitCount_0f7a4_48 : Dc cJ6_bitCount_0f7a4 48 1 49 (.iload_n 0) := ⟨by decide +kernel, rfl⟩
theorem dJ6_bitCount_0f7a4_49 : Dc cJ6_bitCount_0f7a4 49 2 51 (.bipush 63) := ⟨by decide +kernel, rfl⟩
theorem dJ6_bitCount_0f7a4_51 : Dc cJ6_bitCount_0f7a4 51 1 52 (.iand) := ⟨by decide +kernel, rfl⟩
theorem dJ6_bitCount_0f7a4_52 : Dc cJ6_bitCount_0f7a4 52 1 53 (.ireturn) := ⟨by decide +kernel, rfl⟩
theorem dJ9_abs_0f7a4_0 : Dc cJ9_abs_0f7a4 0 1 1 (.iload_n 0) := ⟨by decide +kernel, rfl⟩
theorem dJ9_abs_0f7a4_1 : Dc cJ9_abs_0f7a4 1 3 4 (.ifCond .ge 8) := ⟨by decide +kernel, rfl⟩
theorem dJ9_abs_0f7a4_4 : Dc cJ9_abs_0f7a4 4 1 5 (.iload_n 0) := ⟨by decide +kernel, rfl⟩
theorem dJ9_abs_0f7a4_5 : Dc cJ9_abs_0f7a4 5 1 6 (.ineg) := ⟨by decide +kernel, rfl⟩
theorem dJ9_abs_0f7a4_6 : Dc cJ9_abs_0f7a4 6 3 9 (.goto 4) := ⟨by decide +kernel, rfl⟩
theorem dJ9_abs_0f7a4_9 : Dc cJ9_abs_0f7a4 9 1 10 (.iload_n 0) := ⟨by decide +kernel, rfl⟩
theorem dJ9_abs_0f7a4_10 : Dc cJ9_abs_0f7a4 10 1 11 (.ireturn) := ⟨by decide +kernel, rfl⟩
theorem dJ9_max_7cf53_0 : Dc cJ9_max_7cf53 0 1 1 (.iload_n 0) := ⟨by decide +kernel, rfl⟩
theorem dJ9_max_7cf53_1 : Dc cJ9_max_7cf53 1 1 2 (.iload_n 1) := ⟨by decide +kernel, rfl⟩
theorem dJ9_max_7cf53_2 : Dc cJ9_max_7cf53 2 3 5 (.if_icmp .lt 7) := ⟨by decide +kernel, rfl⟩
theorem dJ9_max_7cf53_5 : Dc cJ9_max_7cf53 5 1 6 (.iload_n 0) := ⟨by decide +kernel, rfl⟩
theorem dJ9_max_7cf53_6 : Dc cJ9_max_7cf53 6 3 9 (.goto 4) := ⟨by decide +kernel, rfl⟩
theorem dJ9_max_7cf53_9 : Dc cJ9_max_7cf53 9 1 10 (.iload_n 1) := ⟨by decide +kernel, rfl⟩
theorem dJ9_max_7cf53_10 : Dc cJ9_max_7cf53 10 1 11 (.ireturn) := ⟨by decide +kernel, rfl⟩
theorem dJ9_min_7cf53_0 : Dc cJ9_min_7cf53 0 1 1 (.iload_n 0) := ⟨by decide +kernel, rfl⟩
theorem dJ9_min_7cf53_1 : Dc cJ9_min_7cf53 1 1 2 (.iload_n 1) := ⟨by decide +kernel, rfl⟩
theorem dJ9_min_7cf53_2 : Dc cJ9_min_7cf53 2 3 5 (.if_icmp .gt 7) := ⟨by decide +kernel, rfl⟩
theorem dJ9_min_7cf53_5 : Dc cJ9_min_7cf53 5 1 6 (.iload_n 0) := ⟨by decide +kernel, rfl⟩
theorem dJ9_min_7cf53_6 : Dc cJ9_min_7cf53 6 3 9 (.goto 4) := ⟨by decide +kernel, rfl⟩
theorem dJ9_min_7cf53_9 : Dc cJ9_min_7cf53 9 1 10 (.iload_n 1) := ⟨by decide +kernel, rfl⟩
theorem dJ9_min_7cf53_10 : Dc cJ9_min_7cf53 10 1 11 (.ireturn) := ⟨by decide +kernel, rfl⟩
theorem dL_law_0 : Dc cL_law 0 3 3 (.new 7) := ⟨by decide +kernel, rfl⟩
theorem dL_law_3 : Dc cL_law 3 1 4 (.dup) := ⟨by decide +kernel, rfl⟩
theorem dL_law_4 : Dc cL_law 4 3 7 (.invokespecial 9) := ⟨by decide +kernel, rfl⟩
theorem dL_law_7 : Dc cL_law 7 1 8 (.astore_n 1) := ⟨by decide +kernel, rfl⟩
theorem dL_law_8 : Dc cL_law 8 3 11 (.new 10) := ⟨by decide +kernel, rfl⟩
theorem dL_law_11 : Dc cL_law 11 1 12 (.dup) := ⟨by decide +kernel, rfl⟩
theorem dL_law_12 : Dc cL_law 12 3 15 (.invokespecial 12) := ⟨by decide +kernel, rfl⟩
theorem dL_law_15 : Dc cL_law 15 1 16 (.astore_n 2) := ⟨by decide +kernel, rfl⟩
theorem dL_law_16 : Dc cL_law 16 1 17 (.iconst 0) := ⟨by decide +kernel, rfl⟩
theorem dL_law_17 : Dc cL_law 17 1 18 (.istore_n 3) := ⟨by decide +kernel, rfl⟩
theorem dL_law_18 : Dc cL_law 18 1 19 (.iload_n 3) := ⟨by decide +kernel, rfl⟩
theorem dL_law_19 : Dc cL_law 19 1 20 (.aload_n 0) := ⟨by decide +kernel, rfl⟩
theorem dL_law_20 : Dc cL_law 20 1 21 (.arraylength) := ⟨by decide +kernel, rfl⟩
theorem dL_law_21 : Dc cL_law 21 1 22 (.iconst 3) := ⟨by decide +kernel, rfl⟩
theorem dL_law_22 : Dc cL_law 22 1 23 (.isub) := ⟨by decide +kernel, rfl⟩
theorem dL_law_23 : Dc cL_law 23 3 26 (.if_icmp .gt 627) := ⟨by decide +kernel, rfl⟩
theorem dL_law_26 : Dc cL_law 26 1 27 (.aload_n 0) := ⟨by decide +kernel, rfl⟩
theorem dL_law_27 : Dc cL_law 27 1 28 (.iload_n 3) := ⟨by decide +kernel, rfl⟩
theorem dL_law_28 : Dc cL_law 28 1 29 (.iaload) := ⟨by decide +kernel, rfl⟩
theorem dL_law_29 : Dc cL_law 29 2 31 (.bipush 31) := ⟨by decide +kernel, rfl⟩
theorem dL_law_31 : Dc cL_law 31 1 32 (.iand) := ⟨by decide +kernel, rfl⟩
theorem dL_law_32 : Dc cL_law 32 116 148 (.tableswitch 612 0 24 #[116, 129, 152, 175, 198, 211, 244, 257, 270, 293, 306, 319, 332, 355, 388, 421, 444, 457, 490, 503, 526, 549, 562, 575, 598]) := ⟨by decide +kernel, rfl⟩
theorem dL_law_148 : Dc cL_law 148 1 149 (.aload_n 1) := ⟨by decide +kernel, rfl⟩
theorem dL_law_149 : Dc cL_law 149 3 152 (.invokevirtual 13) := ⟨by decide +kernel, rfl⟩
theorem dL_law_152 : Dc cL_law 152 1 153 (.aload_n 2) := ⟨by decide +kernel, rfl⟩
theorem dL_law_153 : Dc cL_law 153 3 156 (.invokevirtual 17) := ⟨by decide +kernel, rfl⟩
theorem dL_law_156 : Dc cL_law 156 3 159 (.if_icmp .eq 488) := ⟨by decide +kernel, rfl⟩
theorem dL_law_159 : Dc cL_law 159 1 160 (.iconst 0) := ⟨by decide +kernel, rfl⟩
theorem dL_law_160 : Dc cL_law 160 1 161 (.ireturn) := ⟨by decide +kernel, rfl⟩
theorem dL_law_161 : Dc cL_law 161 1 162 (.aload_n 1) := ⟨by decide +kernel, rfl⟩
theorem dL_law_162 : Dc cL_law 162 1 163 (.aload_n 0) := ⟨by decide +kernel, rfl⟩
theorem dL_law_163 : Dc cL_law 163 1 164 (.iload_n 3) := ⟨by decide +kernel, rfl⟩
theorem dL_law_164 : Dc cL_law 164 1 165 (.iconst 1) := ⟨by decide +kernel, rfl⟩
theorem dL_law_165 : Dc cL_law 165 1 166 (.iadd) := ⟨by decide +kernel, rfl⟩
theorem dL_law_166 : Dc cL_law 166 1 167 (.iaload) := ⟨by decide +kernel, rfl⟩
theorem dL_law_167 : Dc cL_law 167 3 170 (.invokevirtual 18) := ⟨by decide +kernel, rfl⟩
theorem dL_law_170 : Dc cL_law 170 1 171 (.aload_n 2) := ⟨by decide +kernel, rfl⟩
theorem dL_law_171 : Dc cL_law 171 1 172 (.aload_n 0) := ⟨by decide +kernel, rfl⟩
theorem dL_law_172 : Dc cL_law 172 1 173 (.iload_n 3) := ⟨by decide +kernel, rfl⟩
theorem dL_law_173 : Dc cL_law 173 1 174 (.iconst 1) := ⟨by decide +kernel, rfl⟩
theorem dL_law_174 : Dc cL_law 174 1 175 (.iadd) := ⟨by decide +kernel, rfl⟩
theorem dL_law_175 : Dc cL_law 175 1 176 (.iaload) := ⟨by decide +kernel, rfl⟩
theorem dL_law_176 : Dc cL_law 176 3 179 (.invokevirtual 22) := ⟨by decide +kernel, rfl⟩
theorem dL_law_179 : Dc cL_law 179 3 182 (.if_icmp .eq 465) := ⟨by decide +kernel, rfl⟩
theorem dL_law_182 : Dc cL_law 182 1 183 (.iconst 0) := ⟨by decide +kernel, rfl⟩
theorem dL_law_183 : Dc cL_law 183 1 184 (.ireturn) := ⟨by decide +kernel, rfl⟩
theorem dL_law_184 : Dc cL_law 184 1 185 (.aload_n 1) := ⟨by decide +kernel, rfl⟩
theorem dL_law_185 : Dc cL_law 185 1 186 (.aload_n 0) := ⟨by decide +kernel, rfl⟩
theorem dL_law_186 : Dc cL_law 186 1 187 (.iload_n 3) := ⟨by decide +kernel, rfl⟩
theorem dL_law_187 : Dc cL_law 187 1 188 (.iconst 1) := ⟨by decide +kernel, rfl⟩
theorem dL_law_188 : Dc cL_law 188 1 189 (.iadd) := ⟨by decide +kernel, rfl⟩
theorem dL_law_189 : Dc cL_law 189 1 190 (.iaload) := ⟨by decide +kernel, rfl⟩
theorem dL_law_190 : Dc cL_law 190 3 193 (.invokevirtual 23) := ⟨by decide +kernel, rfl⟩
theorem dL_law_193 : Dc cL_law 193 1 194 (.aload_n 2) := ⟨by decide +kernel, rfl⟩
theorem dL_law_194 : Dc cL_law 194 1 195 (.aload_n 0) := ⟨by decide +kernel, rfl⟩
theorem dL_law_195 : Dc cL_law 195 1 196 (.iload_n 3) := ⟨by decide +kernel, rfl⟩
theorem dL_law_196 : Dc cL_law 196 1 197 (.iconst 1) := ⟨by decide +kernel, rfl⟩
theorem dL_law_197 : Dc cL_law 197 1 198 (.iadd) := ⟨by decide +kernel, rfl⟩
theorem dL_law_198 : Dc cL_law 198 1 199 (.iaload) := ⟨by decide +kernel, rfl⟩
theorem dL_law_199 : Dc cL_law 199 3 202 (.invokevirtual 26) := ⟨by decide +kernel, rfl⟩
theorem dL_law_202 : Dc cL_law 202 3 205 (.if_icmp .eq 442) := ⟨by decide +kernel, rfl⟩
theorem dL_law_205 : Dc cL_law 205 1 206 (.iconst 0) := ⟨by decide +kernel, rfl⟩
theorem dL_law_206 : Dc cL_law 206 1 207 (.ireturn) := ⟨by decide +kernel, rfl⟩
theorem dL_law_207 : Dc cL_law 207 1 208 (.aload_n 1) := ⟨by decide +kernel, rfl⟩
theorem dL_law_208 : Dc cL_law 208 1 209 (.aload_n 0) := ⟨by decide +kernel, rfl⟩
theorem dL_law_209 : Dc cL_law 209 1 210 (.iload_n 3) := ⟨by decide +kernel, rfl⟩
theorem dL_law_210 : Dc cL_law 210 1 211 (.iconst 1) := ⟨by decide +kernel, rfl⟩
theorem dL_law_211 : Dc cL_law 211 1 212 (.iadd) := ⟨by decide +kernel, rfl⟩
theorem dL_law_212 : Dc cL_law 212 1 213 (.iaload) := ⟨by decide +kernel, rfl⟩
theorem dL_law_213 : Dc cL_law 213 3 216 (.invokevirtual 27) := ⟨by decide +kernel, rfl⟩
theorem dL_law_216 : Dc cL_law 216 1 217 (.aload_n 2) := ⟨by decide +kernel, rfl⟩
theorem dL_law_217 : Dc cL_law 217 1 218 (.aload_n 0) := ⟨by decide +kernel, rfl⟩
theorem dL_law_218 : Dc cL_law 218 1 219 (.iload_n 3) := ⟨by decide +kernel, rfl⟩
theorem dL_law_219 : Dc cL_law 219 1 220 (.iconst 1) := ⟨by decide +kernel, rfl⟩
theorem dL_law_220 : Dc cL_law 220 1 221 (.iadd) := ⟨by decide +kernel, rfl⟩
theorem dL_law_221 : Dc cL_law 221 1 222 (.iaload) := ⟨by decide +kernel, rfl⟩
theorem dL_law_222 : Dc cL_law 222 3 225 (.invokevirtual 30) := ⟨by decide +kernel, rfl⟩
theorem dL_law_225 : Dc cL_law 225 3 228 (.if_icmp .eq 419) := ⟨by decide +kernel, rfl⟩
theorem dL_law_228 : Dc cL_law 228 1 229 (.iconst 0) := ⟨by decide +kernel, rfl⟩
theorem dL_law_229 : Dc cL_law 229 1 230 (.ireturn) := ⟨by decide +kernel, rfl⟩
theorem dL_law_230 : Dc cL_law 230 1 231 (.aload_n 1) := ⟨by decide +kernel, rfl⟩
theorem dL_law_231 : Dc cL_law 231 3 234 (.invokevirtual 31) := ⟨by decide +kernel, rfl⟩
theorem dL_law_234 : Dc cL_law 234 1 235 (.aload_n 2) := ⟨by decide +kernel, rfl⟩
theorem dL_law_235 : Dc cL_law 235 3 238 (.invokevirtual 34) := ⟨by decide +kernel, rfl⟩
theorem dL_law_238 : Dc cL_law 238 3 241 (.if_icmp .eq 406) := ⟨by decide +kernel, rfl⟩
theorem dL_law_241 : Dc cL_law 241 1 242 (.iconst 0) := ⟨by decide +kernel, rfl⟩
theorem dL_law_242 : Dc cL_law 242 1 243 (.ireturn) := ⟨by decide +kernel, rfl⟩
theorem dL_law_243 : Dc cL_law 243 1 244 (.aload_n 1) := ⟨by decide +kernel, rfl⟩
theorem dL_law_244 : Dc cL_law 244 1 245 (.aload_n 0) := ⟨by decide +kernel, rfl⟩
theorem dL_law_245 : Dc cL_law 245 1 246 (.iload_n 3) := ⟨by decide +kernel, rfl⟩
theorem dL_law_246 : Dc cL_law 246 1 247 (.iconst 1) := ⟨by decide +kernel, rfl⟩
theorem dL_law_247 : Dc cL_law 247 1 248 (.iadd) := ⟨by decide +kernel, rfl⟩
theorem dL_law_248 : Dc cL_law 248 1 249 (.iaload) := ⟨by decide +kernel, rfl⟩
theorem dL_law_249 : Dc cL_law 249 1 250 (.aload_n 0) := ⟨by decide +kernel, rfl⟩
theorem dL_law_250 : Dc cL_law 250 1 251 (.iload_n 3) := ⟨by decide +kernel, rfl⟩
theorem dL_law_251 : Dc cL_law 251 1 252 (.iconst 2) := ⟨by decide +kernel, rfl⟩
theorem dL_law_252 : Dc cL_law 252 1 253 (.iadd) := ⟨by decide +kernel, rfl⟩
theorem dL_law_253 : Dc cL_law 253 1 254 (.iaload) := ⟨by decide +kernel, rfl⟩
theorem dL_law_254 : Dc cL_law 254 3 257 (.invokevirtual 35) := ⟨by decide +kernel, rfl⟩
theorem dL_law_257 : Dc cL_law 257 1 258 (.aload_n 2) := ⟨by decide +kernel, rfl⟩
theorem dL_law_258 : Dc cL_law 258 1 259 (.aload_n 0) := ⟨by decide +kernel, rfl⟩
theorem dL_law_259 : Dc cL_law 259 1 260 (.iload_n 3) := ⟨by decide +kernel, rfl⟩
theorem dL_law_260 : Dc cL_law 260 1 261 (.iconst 1) := ⟨by decide +kernel, rfl⟩
theorem dL_law_261 : Dc cL_law 261 1 262 (.iadd) := ⟨by decide +kernel, rfl⟩
theorem dL_law_262 : Dc cL_law 262 1 263 (.iaload) := ⟨by decide +kernel, rfl⟩
theorem dL_law_263 : Dc cL_law 263 1 264 (.aload_n 0) := ⟨by decide +kernel, rfl⟩
theorem dL_law_264 : Dc cL_law 264 1 265 (.iload_n 3) := ⟨by decide +kernel, rfl⟩
theorem dL_law_265 : Dc cL_law 265 1 266 (.iconst 2) := ⟨by decide +kernel, rfl⟩
theorem dL_law_266 : Dc cL_law 266 1 267 (.iadd) := ⟨by decide +kernel, rfl⟩
theorem dL_law_267 : Dc cL_law 267 1 268 (.iaload) := ⟨by decide +kernel, rfl⟩
theorem dL_law_268 : Dc cL_law 268 3 271 (.invokevirtual 39) := ⟨by decide +kernel, rfl⟩
theorem dL_law_271 : Dc cL_law 271 3 274 (.if_icmp .eq 373) := ⟨by decide +kernel, rfl⟩
theorem dL_law_274 : Dc cL_law 274 1 275 (.iconst 0) := ⟨by decide +kernel, rfl⟩
theorem dL_law_275 : Dc cL_law 275 1 276 (.ireturn) := ⟨by decide +kernel, rfl⟩
theorem dL_law_276 : Dc cL_law 276 1 277 (.aload_n 1) := ⟨by decide +kernel, rfl⟩
theorem dL_law_277 : Dc cL_law 277 3 280 (.invokevirtual 40) := ⟨by decide +kernel, rfl⟩
theorem dL_law_280 : Dc cL_law 280 1 281 (.aload_n 2) := ⟨by decide +kernel, rfl⟩
theorem dL_law_281 : Dc cL_law 281 3 284 (.invokevirtual 43) := ⟨by decide +kernel, rfl⟩
theorem dL_law_284 : Dc cL_law 284 3 287 (.if_icmp .eq 360) := ⟨by decide +kernel, rfl⟩
theorem dL_law_287 : Dc cL_law 287 1 288 (.iconst 0) := ⟨by decide +kernel, rfl⟩
theorem dL_law_288 : Dc cL_law 288 1 289 (.ireturn) := ⟨by decide +kernel, rfl⟩
theorem dL_law_289 : Dc cL_law 289 1 290 (.aload_n 1) := ⟨by decide +kernel, rfl⟩
theorem dL_law_290 : Dc cL_law 290 3 293 (.invokevirtual 44) := ⟨by decide +kernel, rfl⟩
theorem dL_law_293 : Dc cL_law 293 1 294 (.aload_n 2) := ⟨by decide +kernel, rfl⟩
theorem dL_law_294 : Dc cL_law 294 3 297 (.invokevirtual 47) := ⟨by decide +kernel, rfl⟩
theorem dL_law_297 : Dc cL_law 297 3 300 (.if_icmp .eq 347) := ⟨by decide +kernel, rfl⟩
theorem dL_law_300 : Dc cL_law 300 1 301 (.iconst 0) := ⟨by decide +kernel, rfl⟩
theorem dL_law_301 : Dc cL_law 301 1 302 (.ireturn) := ⟨by decide +kernel, rfl⟩
theorem dL_law_302 : Dc cL_law 302 1 303 (.aload_n 1) := ⟨by decide +kernel, rfl⟩
theorem dL_law_303 : Dc cL_law 303 1 304 (.aload_n 0) := ⟨by decide +kernel, rfl⟩
theorem dL_law_304 : Dc cL_law 304 1 305 (.iload_n 3) := ⟨by decide +kernel, rfl⟩
theorem dL_law_305 : Dc cL_law 305 1 306 (.iconst 1) := ⟨by decide +kernel, rfl⟩
theorem dL_law_306 : Dc cL_law 306 1 307 (.iadd) := ⟨by decide +kernel, rfl⟩
theorem dL_law_307 : Dc cL_law 307 1 308 (.iaload) := ⟨by decide +kernel, rfl⟩
theorem dL_law_308 : Dc cL_law 308 3 311 (.invokevirtual 48) := ⟨by decide +kernel, rfl⟩
theorem dL_law_311 : Dc cL_law 311 1 312 (.aload_n 2) := ⟨by decide +kernel, rfl⟩
theorem dL_law_312 : Dc cL_law 312 1 313 (.aload_n 0) := ⟨by decide +kernel, rfl⟩
theorem dL_law_313 : Dc cL_law 313 1 314 (.iload_n 3) := ⟨by decide +kernel, rfl⟩
theorem dL_law_314 : Dc cL_law 314 1 315 (.iconst 1) := ⟨by decide +kernel, rfl⟩
theorem dL_law_315 : Dc cL_law 315 1 316 (.iadd) := ⟨by decide +kernel, rfl⟩
theorem dL_law_316 : Dc cL_law 316 1 317 (.iaload) := ⟨by decide +kernel, rfl⟩
theorem dL_law_317 : Dc cL_law 317 3 320 (.invokevirtual 51) := ⟨by decide +kernel, rfl⟩
theorem dL_law_320 : Dc cL_law 320 3 323 (.if_icmp .eq 324) := ⟨by decide +kernel, rfl⟩
theorem dL_law_323 : Dc cL_law 323 1 324 (.iconst 0) := ⟨by decide +kernel, rfl⟩
theorem dL_law_324 : Dc cL_law 324 1 325 (.ireturn) := ⟨by decide +kernel, rfl⟩
theorem dL_law_325 : Dc cL_law 325 1 326 (.aload_n 1) := ⟨by decide +kernel, rfl⟩
theorem dL_law_326 : Dc cL_law 326 3 329 (.invokevirtual 52) := ⟨by decide +kernel, rfl⟩
theorem dL_law_329 : Dc cL_law 329 1 330 (.aload_n 2) := ⟨by decide +kernel, rfl⟩
theorem dL_law_330 : Dc cL_law 330 3 333 (.invokevirtual 55) := ⟨by decide +kernel, rfl⟩
theorem dL_law_333 : Dc cL_law 333 3 336 (.if_icmp .eq 311) := ⟨by decide +kernel, rfl⟩
theorem dL_law_336 : Dc cL_law 336 1 337 (.iconst 0) := ⟨by decide +kernel, rfl⟩
theorem dL_law_337 : Dc cL_law 337 1 338 (.ireturn) := ⟨by decide +kernel, rfl⟩
theorem dL_law_338 : Dc cL_law 338 1 339 (.aload_n 1) := ⟨by decide +kernel, rfl⟩
theorem dL_law_339 : Dc cL_law 339 3 342 (.invokevirtual 56) := ⟨by decide +kernel, rfl⟩
theorem dL_law_342 : Dc cL_law 342 1 343 (.aload_n 2) := ⟨by decide +kernel, rfl⟩
theorem dL_law_343 : Dc cL_law 343 3 346 (.invokevirtual 59) := ⟨by decide +kernel, rfl⟩
theorem dL_law_346 : Dc cL_law 346 3 349 (.if_icmp .eq 298) := ⟨by decide +kernel, rfl⟩
theorem dL_law_349 : Dc cL_law 349 1 350 (.iconst 0) := ⟨by decide +kernel, rfl⟩
theorem dL_law_350 : Dc cL_law 350 1 351 (.ireturn) := ⟨by decide +kernel, rfl⟩
theorem dL_law_351 : Dc cL_law 351 1 352 (.aload_n 1) := ⟨by decide +kernel, rfl⟩
theorem dL_law_352 : Dc cL_law 352 3 355 (.invokevirtual 60) := ⟨by decide +kernel, rfl⟩
theorem dL_law_355 : Dc cL_law 355 1 356 (.aload_n 2) := ⟨by decide +kernel, rfl⟩
theorem dL_law_356 : Dc cL_law 356 3 359 (.invokevirtual 63) := ⟨by decide +kernel, rfl⟩
theorem dL_law_359 : Dc cL_law 359 3 362 (.if_icmp .eq 285) := ⟨by decide +kernel, rfl⟩
theorem dL_law_362 : Dc cL_law 362 1 363 (.iconst 0) := ⟨by decide +kernel, rfl⟩
theorem dL_law_363 : Dc cL_law 363 1 364 (.ireturn) := ⟨by decide +kernel, rfl⟩
theorem dL_law_364 : Dc cL_law 364 1 365 (.aload_n 1) := ⟨by decide +kernel, rfl⟩
theorem dL_law_365 : Dc cL_law 365 1 366 (.aload_n 0) := ⟨by decide +kernel, rfl⟩
theorem dL_law_366 : Dc cL_law 366 1 367 (.iload_n 3) := ⟨by decide +kernel, rfl⟩
theorem dL_law_367 : Dc cL_law 367 1 368 (.iconst 1) := ⟨by decide +kernel, rfl⟩
theorem dL_law_368 : Dc cL_law 368 1 369 (.iadd) := ⟨by decide +kernel, rfl⟩
theorem dL_law_369 : Dc cL_law 369 1 370 (.iaload) := ⟨by decide +kernel, rfl⟩
theorem dL_law_370 : Dc cL_law 370 3 373 (.invokevirtual 64) := ⟨by decide +kernel, rfl⟩
theorem dL_law_373 : Dc cL_law 373 1 374 (.aload_n 2) := ⟨by decide +kernel, rfl⟩
theorem dL_law_374 : Dc cL_law 374 1 375 (.aload_n 0) := ⟨by decide +kernel, rfl⟩
theorem dL_law_375 : Dc cL_law 375 1 376 (.iload_n 3) := ⟨by decide +kernel, rfl⟩
theorem dL_law_376 : Dc cL_law 376 1 377 (.iconst 1) := ⟨by decide +kernel, rfl⟩
theorem dL_law_377 : Dc cL_law 377 1 378 (.iadd) := ⟨by decide +kernel, rfl⟩
theorem dL_law_378 : Dc cL_law 378 1 379 (.iaload) := ⟨by decide +kernel, rfl⟩
theorem dL_law_379 : Dc cL_law 379 3 382 (.invokevirtual 67) := ⟨by decide +kernel, rfl⟩
theorem dL_law_382 : Dc cL_law 382 3 385 (.if_icmp .eq 262) := ⟨by decide +kernel, rfl⟩
theorem dL_law_385 : Dc cL_law 385 1 386 (.iconst 0) := ⟨by decide +kernel, rfl⟩
theorem dL_law_386 : Dc cL_law 386 1 387 (.ireturn) := ⟨by decide +kernel, rfl⟩
theorem dL_law_387 : Dc cL_law 387 1 388 (.aload_n 1) := ⟨by decide +kernel, rfl⟩
theorem dL_law_388 : Dc cL_law 388 1 389 (.aload_n 0) := ⟨by decide +kernel, rfl⟩
theorem dL_law_389 : Dc cL_law 389 1 390 (.iload_n 3) := ⟨by decide +kernel, rfl⟩
theorem dL_law_390 : Dc cL_law 390 1 391 (.iconst 1) := ⟨by decide +kernel, rfl⟩
theorem dL_law_391 : Dc cL_law 391 1 392 (.iadd) := ⟨by decide +kernel, rfl⟩
theorem dL_law_392 : Dc cL_law 392 1 393 (.iaload) := ⟨by decide +kernel, rfl⟩
theorem dL_law_393 : Dc cL_law 393 1 394 (.aload_n 0) := ⟨by decide +kernel, rfl⟩
theorem dL_law_394 : Dc cL_law 394 1 395 (.iload_n 3) := ⟨by decide +kernel, rfl⟩
theorem dL_law_395 : Dc cL_law 395 1 396 (.iconst 2) := ⟨by decide +kernel, rfl⟩
theorem dL_law_396 : Dc cL_law 396 1 397 (.iadd) := ⟨by decide +kernel, rfl⟩
theorem dL_law_397 : Dc cL_law 397 1 398 (.iaload) := ⟨by decide +kernel, rfl⟩
theorem dL_law_398 : Dc cL_law 398 3 401 (.invokevirtual 68) := ⟨by decide +kernel, rfl⟩
theorem dL_law_401 : Dc cL_law 401 1 402 (.aload_n 2) := ⟨by decide +kernel, rfl⟩
theorem dL_law_402 : Dc cL_law 402 1 403 (.aload_n 0) := ⟨by decide +kernel, rfl⟩
theorem dL_law_403 : Dc cL_law 403 1 404 (.iload_n 3) := ⟨by decide +kernel, rfl⟩
theorem dL_law_404 : Dc cL_law 404 1 405 (.iconst 1) := ⟨by decide +kernel, rfl⟩
theorem dL_law_405 : Dc cL_law 405 1 406 (.iadd) := ⟨by decide +kernel, rfl⟩
theorem dL_law_406 : Dc cL_law 406 1 407 (.iaload) := ⟨by decide +kernel, rfl⟩
theorem dL_law_407 : Dc cL_law 407 1 408 (.aload_n 0) := ⟨by decide +kernel, rfl⟩
theorem dL_law_408 : Dc cL_law 408 1 409 (.iload_n 3) := ⟨by decide +kernel, rfl⟩
theorem dL_law_409 : Dc cL_law 409 1 410 (.iconst 2) := ⟨by decide +kernel, rfl⟩
theorem dL_law_410 : Dc cL_law 410 1 411 (.iadd) := ⟨by decide +kernel, rfl⟩
theorem dL_law_411 : Dc cL_law 411 1 412 (.iaload) := ⟨by decide +kernel, rfl⟩
theorem dL_law_412 : Dc cL_law 412 3 415 (.invokevirtual 71) := ⟨by decide +kernel, rfl⟩
theorem dL_law_415 : Dc cL_law 415 3 418 (.if_icmp .eq 229) := ⟨by decide +kernel, rfl⟩
theorem dL_law_418 : Dc cL_law 418 1 419 (.iconst 0) := ⟨by decide +kernel, rfl⟩
theorem dL_law_419 : Dc cL_law 419 1 420 (.ireturn) := ⟨by decide +kernel, rfl⟩
theorem dL_law_420 : Dc cL_law 420 1 421 (.aload_n 1) := ⟨by decide +kernel, rfl⟩
theorem dL_law_421 : Dc cL_law 421 1 422 (.aload_n 0) := ⟨by decide +kernel, rfl⟩
theorem dL_law_422 : Dc cL_law 422 1 423 (.iload_n 3) := ⟨by decide +kernel, rfl⟩
theorem dL_law_423 : Dc cL_law 423 1 424 (.iconst 1) := ⟨by decide +kernel, rfl⟩
theorem dL_law_424 : Dc cL_law 424 1 425 (.iadd) := ⟨by decide +kernel, rfl⟩
theorem dL_law_425 : Dc cL_law 425 1 426 (.iaload) := ⟨by decide +kernel, rfl⟩
theorem dL_law_426 : Dc cL_law 426 1 427 (.aload_n 0) := ⟨by decide +kernel, rfl⟩
theorem dL_law_427 : Dc cL_law 427 1 428 (.iload_n 3) := ⟨by decide +kernel, rfl⟩
theorem dL_law_428 : Dc cL_law 428 1 429 (.iconst 2) := ⟨by decide +kernel, rfl⟩
theorem dL_law_429 : Dc cL_law 429 1 430 (.iadd) := ⟨by decide +kernel, rfl⟩
theorem dL_law_430 : Dc cL_law 430 1 431 (.iaload) := ⟨by decide +kernel, rfl⟩
theorem dL_law_431 : Dc cL_law 431 3 434 (.invokevirtual 72) := ⟨by decide +kernel, rfl⟩
theorem dL_law_434 : Dc cL_law 434 1 435 (.aload_n 2) := ⟨by decide +kernel, rfl⟩
theorem dL_law_435 : Dc cL_law 435 1 436 (.aload_n 0) := ⟨by decide +kernel, rfl⟩
theorem dL_law_436 : Dc cL_law 436 1 437 (.iload_n 3) := ⟨by decide +kernel, rfl⟩
theorem dL_law_437 : Dc cL_law 437 1 438 (.iconst 1) := ⟨by decide +kernel, rfl⟩
theorem dL_law_438 : Dc cL_law 438 1 439 (.iadd) := ⟨by decide +kernel, rfl⟩
theorem dL_law_439 : Dc cL_law 439 1 440 (.iaload) := ⟨by decide +kernel, rfl⟩
theorem dL_law_440 : Dc cL_law 440 1 441 (.aload_n 0) := ⟨by decide +kernel, rfl⟩
theorem dL_law_441 : Dc cL_law 441 1 442 (.iload_n 3) := ⟨by decide +kernel, rfl⟩
theorem dL_law_442 : Dc cL_law 442 1 443 (.iconst 2) := ⟨by decide +kernel, rfl⟩
theorem dL_law_443 : Dc cL_law 443 1 444 (.iadd) := ⟨by decide +kernel, rfl⟩
theorem dL_law_444 : Dc cL_law 444 1 445 (.iaload) := ⟨by decide +kernel, rfl⟩
theorem dL_law_445 : Dc cL_law 445 3 448 (.invokevirtual 75) := ⟨by decide +kernel, rfl⟩
theorem dL_law_448 : Dc cL_law 448 3 451 (.if_icmp .eq 196) := ⟨by decide +kernel, rfl⟩
theorem dL_law_451 : Dc cL_law 451 1 452 (.iconst 0) := ⟨by decide +kernel, rfl⟩
theorem dL_law_452 : Dc cL_law 452 1 453 (.ireturn) := ⟨by decide +kernel, rfl⟩
theorem dL_law_453 : Dc cL_law 453 1 454 (.aload_n 1) := ⟨by decide +kernel, rfl⟩
theorem dL_law_454 : Dc cL_law 454 1 455 (.aload_n 0) := ⟨by decide +kernel, rfl⟩
theorem dL_law_455 : Dc cL_law 455 1 456 (.iload_n 3) := ⟨by decide +kernel, rfl⟩
theorem dL_law_456 : Dc cL_law 456 1 457 (.iconst 1) := ⟨by decide +kernel, rfl⟩
theorem dL_law_457 : Dc cL_law 457 1 458 (.iadd) := ⟨by decide +kernel, rfl⟩
theorem dL_law_458 : Dc cL_law 458 1 459 (.iaload) := ⟨by decide +kernel, rfl⟩
theorem dL_law_459 : Dc cL_law 459 3 462 (.invokevirtual 76) := ⟨by decide +kernel, rfl⟩
theorem dL_law_462 : Dc cL_law 462 1 463 (.aload_n 2) := ⟨by decide +kernel, rfl⟩
theorem dL_law_463 : Dc cL_law 463 1 464 (.aload_n 0) := ⟨by decide +kernel, rfl⟩
theorem dL_law_464 : Dc cL_law 464 1 465 (.iload_n 3) := ⟨by decide +kernel, rfl⟩
theorem dL_law_465 : Dc cL_law 465 1 466 (.iconst 1) := ⟨by decide +kernel, rfl⟩
theorem dL_law_466 : Dc cL_law 466 1 467 (.iadd) := ⟨by decide +kernel, rfl⟩
theorem dL_law_467 : Dc cL_law 467 1 468 (.iaload) := ⟨by decide +kernel, rfl⟩
theorem dL_law_468 : Dc cL_law 468 3 471 (.invokevirtual 79) := ⟨by decide +kernel, rfl⟩
theorem dL_law_471 : Dc cL_law 471 3 474 (.if_icmp .eq 173) := ⟨by decide +kernel, rfl⟩
theorem dL_law_474 : Dc cL_law 474 1 475 (.iconst 0) := ⟨by decide +kernel, rfl⟩
theorem dL_law_475 : Dc cL_law 475 1 476 (.ireturn) := ⟨by decide +kernel, rfl⟩
theorem dL_law_476 : Dc cL_law 476 1 477 (.aload_n 1) := ⟨by decide +kernel, rfl⟩
theorem dL_law_477 : Dc cL_law 477 3 480 (.invokevirtual 80) := ⟨by decide +kernel, rfl⟩
theorem dL_law_480 : Dc cL_law 480 1 481 (.aload_n 2) := ⟨by decide +kernel, rfl⟩
theorem dL_law_481 : Dc cL_law 481 3 484 (.invokevirtual 83) := ⟨by decide +kernel, rfl⟩
theorem dL_law_484 : Dc cL_law 484 3 487 (.if_icmp .eq 160) := ⟨by decide +kernel, rfl⟩
theorem dL_law_487 : Dc cL_law 487 1 488 (.iconst 0) := ⟨by decide +kernel, rfl⟩
theorem dL_law_488 : Dc cL_law 488 1 489 (.ireturn) := ⟨by decide +kernel, rfl⟩
theorem dL_law_489 : Dc cL_law 489 1 490 (.aload_n 1) := ⟨by decide +kernel, rfl⟩
theorem dL_law_490 : Dc cL_law 490 1 491 (.aload_n 0) := ⟨by decide +kernel, rfl⟩
theorem dL_law_491 : Dc cL_law 491 1 492 (.iload_n 3) := ⟨by decide +kernel, rfl⟩
theorem dL_law_492 : Dc cL_law 492 1 493 (.iconst 1) := ⟨by decide +kernel, rfl⟩
theorem dL_law_493 : Dc cL_law 493 1 494 (.iadd) := ⟨by decide +kernel, rfl⟩
theorem dL_law_494 : Dc cL_law 494 1 495 (.iaload) := ⟨by decide +kernel, rfl⟩
theorem dL_law_495 : Dc cL_law 495 1 496 (.aload_n 0) := ⟨by decide +kernel, rfl⟩
theorem dL_law_496 : Dc cL_law 496 1 497 (.iload_n 3) := ⟨by decide +kernel, rfl⟩
theorem dL_law_497 : Dc cL_law 497 1 498 (.iconst 2) := ⟨by decide +kernel, rfl⟩
theorem dL_law_498 : Dc cL_law 498 1 499 (.iadd) := ⟨by decide +kernel, rfl⟩
theorem dL_law_499 : Dc cL_law 499 1 500 (.iaload) := ⟨by decide +kernel, rfl⟩
theorem dL_law_500 : Dc cL_law 500 3 503 (.invokevirtual 84) := ⟨by decide +kernel, rfl⟩
theorem dL_law_503 : Dc cL_law 503 1 504 (.aload_n 2) := ⟨by decide +kernel, rfl⟩
theorem dL_law_504 : Dc cL_law 504 1 505 (.aload_n 0) := ⟨by decide +kernel, rfl⟩
theorem dL_law_505 : Dc cL_law 505 1 506 (.iload_n 3) := ⟨by decide +kernel, rfl⟩
theorem dL_law_506 : Dc cL_law 506 1 507 (.iconst 1) := ⟨by decide +kernel, rfl⟩
theorem dL_law_507 : Dc cL_law 507 1 508 (.iadd) := ⟨by decide +kernel, rfl⟩
theorem dL_law_508 : Dc cL_law 508 1 509 (.iaload) := ⟨by decide +kernel, rfl⟩
theorem dL_law_509 : Dc cL_law 509 1 510 (.aload_n 0) := ⟨by decide +kernel, rfl⟩
theorem dL_law_510 : Dc cL_law 510 1 511 (.iload_n 3) := ⟨by decide +kernel, rfl⟩
theorem dL_law_511 : Dc cL_law 511 1 512 (.iconst 2) := ⟨by decide +kernel, rfl⟩
theorem dL_law_512 : Dc cL_law 512 1 513 (.iadd) := ⟨by decide +kernel, rfl⟩
theorem dL_law_513 : Dc cL_law 513 1 514 (.iaload) := ⟨by decide +kernel, rfl⟩
theorem dL_law_514 : Dc cL_law 514 3 517 (.invokevirtual 87) := ⟨by decide +kernel, rfl⟩
theorem dL_law_517 : Dc cL_law 517 3 520 (.if_icmp .eq 127) := ⟨by decide +kernel, rfl⟩
theorem dL_law_520 : Dc cL_law 520 1 521 (.iconst 0) := ⟨by decide +kernel, rfl⟩
theorem dL_law_521 : Dc cL_law 521 1 522 (.ireturn) := ⟨by decide +kernel, rfl⟩
theorem dL_law_522 : Dc cL_law 522 1 523 (.aload_n 1) := ⟨by decide +kernel, rfl⟩
theorem dL_law_523 : Dc cL_law 523 3 526 (.invokevirtual 88) := ⟨by decide +kernel, rfl⟩
theorem dL_law_526 : Dc cL_law 526 1 527 (.aload_n 2) := ⟨by decide +kernel, rfl⟩
theorem dL_law_527 : Dc cL_law 527 3 530 (.invokevirtual 91) := ⟨by decide +kernel, rfl⟩
theorem dL_law_530 : Dc cL_law 530 3 533 (.if_icmp .eq 114) := ⟨by decide +kernel, rfl⟩
theorem dL_law_533 : Dc cL_law 533 1 534 (.iconst 0) := ⟨by decide +kernel, rfl⟩
theorem dL_law_534 : Dc cL_law 534 1 535 (.ireturn) := ⟨by decide +kernel, rfl⟩
theorem dL_law_535 : Dc cL_law 535 1 536 (.aload_n 1) := ⟨by decide +kernel, rfl⟩
theorem dL_law_536 : Dc cL_law 536 1 537 (.aload_n 0) := ⟨by decide +kernel, rfl⟩
theorem dL_law_537 : Dc cL_law 537 1 538 (.iload_n 3) := ⟨by decide +kernel, rfl⟩
theorem dL_law_538 : Dc cL_law 538 1 539 (.iconst 1) := ⟨by decide +kernel, rfl⟩
theorem dL_law_539 : Dc cL_law 539 1 540 (.iadd) := ⟨by decide +kernel, rfl⟩
theorem dL_law_540 : Dc cL_law 540 1 541 (.iaload) := ⟨by decide +kernel, rfl⟩
theorem dL_law_541 : Dc cL_law 541 3 544 (.invokevirtual 92) := ⟨by decide +kernel, rfl⟩
theorem dL_law_544 : Dc cL_law 544 1 545 (.aload_n 2) := ⟨by decide +kernel, rfl⟩
theorem dL_law_545 : Dc cL_law 545 1 546 (.aload_n 0) := ⟨by decide +kernel, rfl⟩
theorem dL_law_546 : Dc cL_law 546 1 547 (.iload_n 3) := ⟨by decide +kernel, rfl⟩
theorem dL_law_547 : Dc cL_law 547 1 548 (.iconst 1) := ⟨by decide +kernel, rfl⟩
theorem dL_law_548 : Dc cL_law 548 1 549 (.iadd) := ⟨by decide +kernel, rfl⟩
theorem dL_law_549 : Dc cL_law 549 1 550 (.iaload) := ⟨by decide +kernel, rfl⟩
theorem dL_law_550 : Dc cL_law 550 3 553 (.invokevirtual 95) := ⟨by decide +kernel, rfl⟩
theorem dL_law_553 : Dc cL_law 553 3 556 (.if_icmp .eq 91) := ⟨by decide +kernel, rfl⟩
theorem dL_law_556 : Dc cL_law 556 1 557 (.iconst 0) := ⟨by decide +kernel, rfl⟩
theorem dL_law_557 : Dc cL_law 557 1 558 (.ireturn) := ⟨by decide +kernel, rfl⟩
theorem dL_law_558 : Dc cL_law 558 1 559 (.aload_n 1) := ⟨by decide +kernel, rfl⟩
theorem dL_law_559 : Dc cL_law 559 1 560 (.aload_n 0) := ⟨by decide +kernel, rfl⟩
theorem dL_law_560 : Dc cL_law 560 1 561 (.iload_n 3) := ⟨by decide +kernel, rfl⟩
theorem dL_law_561 : Dc cL_law 561 1 562 (.iconst 1) := ⟨by decide +kernel, rfl⟩
theorem dL_law_562 : Dc cL_law 562 1 563 (.iadd) := ⟨by decide +kernel, rfl⟩
theorem dL_law_563 : Dc cL_law 563 1 564 (.iaload) := ⟨by decide +kernel, rfl⟩
theorem dL_law_564 : Dc cL_law 564 3 567 (.invokevirtual 96) := ⟨by decide +kernel, rfl⟩
theorem dL_law_567 : Dc cL_law 567 1 568 (.aload_n 2) := ⟨by decide +kernel, rfl⟩
theorem dL_law_568 : Dc cL_law 568 1 569 (.aload_n 0) := ⟨by decide +kernel, rfl⟩
theorem dL_law_569 : Dc cL_law 569 1 570 (.iload_n 3) := ⟨by decide +kernel, rfl⟩
theorem dL_law_570 : Dc cL_law 570 1 571 (.iconst 1) := ⟨by decide +kernel, rfl⟩
theorem dL_law_571 : Dc cL_law 571 1 572 (.iadd) := ⟨by decide +kernel, rfl⟩
theorem dL_law_572 : Dc cL_law 572 1 573 (.iaload) := ⟨by decide +kernel, rfl⟩
theorem dL_law_573 : Dc cL_law 573 3 576 (.invokevirtual 99) := ⟨by decide +kernel, rfl⟩
theorem dL_law_576 : Dc cL_law 576 3 579 (.if_icmp .eq 68) := ⟨by decide +kernel, rfl⟩
theorem dL_law_579 : Dc cL_law 579 1 580 (.iconst 0) := ⟨by decide +kernel, rfl⟩
theorem dL_law_580 : Dc cL_law 580 1 581 (.ireturn) := ⟨by decide +kernel, rfl⟩
theorem dL_law_581 : Dc cL_law 581 1 582 (.aload_n 1) := ⟨by decide +kernel, rfl⟩
theorem dL_law_582 : Dc cL_law 582 3 585 (.invokevirtual 100) := ⟨by decide +kernel, rfl⟩
theorem dL_law_585 : Dc cL_law 585 1 586 (.aload_n 2) := ⟨by decide +kernel, rfl⟩
theorem dL_law_586 : Dc cL_law 586 3 589 (.invokevirtual 103) := ⟨by decide +kernel, rfl⟩
theorem dL_law_589 : Dc cL_law 589 3 592 (.if_icmp .eq 55) := ⟨by decide +kernel, rfl⟩
theorem dL_law_592 : Dc cL_law 592 1 593 (.iconst 0) := ⟨by decide +kernel, rfl⟩
theorem dL_law_593 : Dc cL_law 593 1 594 (.ireturn) := ⟨by decide +kernel, rfl⟩
theorem dL_law_594 : Dc cL_law 594 1 595 (.aload_n 1) := ⟨by decide +kernel, rfl⟩
theorem dL_law_595 : Dc cL_law 595 3 598 (.invokevirtual 104) := ⟨by decide +kernel, rfl⟩
theorem dL_law_598 : Dc cL_law 598 1 599 (.aload_n 2) := ⟨by decide +kernel, rfl⟩
theorem dL_law_599 : Dc cL_law 599 3 602 (.invokevirtual 107) := ⟨by decide +kernel, rfl⟩
theorem dL_law_602 : Dc cL_law 602 3 605 (.if_icmp .eq 42) := ⟨by decide +kernel, rfl⟩
theorem dL_law_605 : Dc cL_law 605 1 606 (.iconst 0) := ⟨by decide +kernel, rfl⟩
theorem dL_law_606 : Dc cL_law 606 1 607 (.ireturn) := ⟨by decide +kernel, rfl⟩
theorem dL_law_607 : Dc cL_law 607 1 608 (.aload_n 1) := ⟨by decide +kernel, rfl⟩
theorem dL_law_608 : Dc cL_law 608 1 609 (.aload_n 0) := ⟨by decide +kernel, rfl⟩
theorem dL_law_609 : Dc cL_law 609 1 610 (.iload_n 3) := ⟨by decide +kernel, rfl⟩
theorem dL_law_610 : Dc cL_law 610 1 611 (.iconst 1) := ⟨by decide +kernel, rfl⟩
theorem dL_law_611 : Dc cL_law 611 1 612 (.iadd) := ⟨by decide +kernel, rfl⟩
theorem dL_law_612 : Dc cL_law 612 1 613 (.iaload) := ⟨by decide +kernel, rfl⟩
theorem dL_law_613 : Dc cL_law 613 3 616 (.invokevirtual 108) := ⟨by decide +kernel, rfl⟩
theorem dL_law_616 : Dc cL_law 616 1 617 (.aload_n 2) := ⟨by decide +kernel, rfl⟩
theorem dL_law_617 : Dc cL_law 617 1 618 (.aload_n 0) := ⟨by decide +kernel, rfl⟩
theorem dL_law_618 : Dc cL_law 618 1 619 (.iload_n 3) := ⟨by decide +kernel, rfl⟩
theorem dL_law_619 : Dc cL_law 619 1 620 (.iconst 1) := ⟨by decide +kernel, rfl⟩
theorem dL_law_620 : Dc cL_law 620 1 621 (.iadd) := ⟨by decide +kernel, rfl⟩
theorem dL_law_621 : Dc cL_law 621 1 622 (.iaload) := ⟨by decide +kernel, rfl⟩
theorem dL_law_622 : Dc cL_law 622 3 625 (.invokevirtual 111) := ⟨by decide +kernel, rfl⟩
theorem dL_law_625 : Dc cL_law 625 3 628 (.if_icmp .eq 19) := ⟨by decide +kernel, rfl⟩
theorem dL_law_628 : Dc cL_law 628 1 629 (.iconst 0) := ⟨by decide +kernel, rfl⟩
theorem dL_law_629 : Dc cL_law 629 1 630 (.ireturn) := ⟨by decide +kernel, rfl⟩
theorem dL_law_630 : Dc cL_law 630 1 631 (.aload_n 1) := ⟨by decide +kernel, rfl⟩
theorem dL_law_631 : Dc cL_law 631 3 634 (.invokevirtual 112) := ⟨by decide +kernel, rfl⟩
theorem dL_law_634 : Dc cL_law 634 1 635 (.aload_n 2) := ⟨by decide +kernel, rfl⟩
theorem dL_law_635 : Dc cL_law 635 3 638 (.invokevirtual 116) := ⟨by decide +kernel, rfl⟩
theorem dL_law_638 : Dc cL_law 638 1 639 (.lcmp) := ⟨by decide +kernel, rfl⟩
theorem dL_law_639 : Dc cL_law 639 3 642 (.ifCond .eq 5) := ⟨by decide +kernel, rfl⟩
theorem dL_law_642 : Dc cL_law 642 1 643 (.iconst 0) := ⟨by decide +kernel, rfl⟩
theorem dL_law_643 : Dc cL_law 643 1 644 (.ireturn) := ⟨by decide +kernel, rfl⟩
theorem dL_law_644 : Dc cL_law 644 3 647 (.iinc 3 3) := ⟨by decide +kernel, rfl⟩
theorem dL_law_647 : Dc cL_law 647 3 650 (.goto (-629)) := ⟨by decide +kernel, rfl⟩
theorem dL_law_650 : Dc cL_law 650 1 651 (.iconst 1) := ⟨by decide +kernel, rfl⟩
theorem dL_law_651 : Dc cL_law 651 1 652 (.ireturn) := ⟨by decide +kernel, rfl⟩
end
section
/-! THE JUDGEMENT Wr (a machine at a place, with its locals, its stack and its world, comes to its end), and its rows -/
def nw_1 : Cond := Cond.methodLinkNest "EtchedPlate" 9 ⟨"EtchedPlate$Plate", "<init>", "()V"⟩ "EtchedPlate"
def nw_2 : Cond := Cond.methodLinkNest "EtchedPlate" 22 ⟨"EtchedPlate$Plan", "<init>", "()V"⟩ "EtchedPlate"
def nw_3 : Cond := Cond.methodLinkNest "EtchedPlate$Plate" 47 ⟨"EtchedPlate", "contains", "(II)Z"⟩ "EtchedPlate"
/-- the words of nest mates and of the array of plates, which are no good words -/
def nestOk (U : State) : Prop := va_Nw nw_1 U ∧ va_Nw nw_2 U ∧ va_Nw nw_3 U ∧ va_AO "EtchedPlate$Plate" U
theorem nestOk.moved {s U : State} (hW : s.WarmedH U.vm) (h : nestOk s) : nestOk U := ⟨va_Nw.warmM hW h.1, va_Nw.warmM hW h.2.1, va_Nw.warmM hW h.2.2.1, va_AO.moved hW.alike h.2.2.2⟩
theorem nestOk.calling {U : State} {g : JFrame} {mk : MethodId} {a : Array Value} (h : nestOk U) : nestOk (U.calling g mk a) := ⟨va_Nw.same (u := U) rfl rfl h.1, va_Nw.same (u := U) rfl rfl h.2.1, va_Nw.same (u := U) rfl rfl h.2.2.1, va_AO.moved (u := U) (Vm.Alike.refl U.vm) h.2.2.2⟩
abbrev tysE (cI cR : ClassId) : List (ClassId × FieldType) := [(cI, .int), (cR, .object "EtchedPlate$Plate")]
abbrev Cxt : Type := Program × Launch × Env × Room × State × MethodId × Array Value × List Frame × Method × Code × va_G × ClassId × ClassId × (Nat → Prop) × Nat × (State → Prop)
def Wr (G : Cxt) (k n pc : Nat) (lv : List (Nat × Value)) (st : List Value) (ws : va_W) : Prop := match G with
  | (p, l, e, R, s, m, args, below, meth, c, D, _, _, A, nL, Q) => ∀ (H : Heap) (locs : List Loc) (ls : Array Slot), va_P D vwCl ws H → va_D A ws → va_S A s.heap H locs → lv_has ls nL lv → W p l e R s m args below meth c H locs k n Q (F0 m pc ls st)
def Ok (G : Cxt) (l : Launch) (R : Room) (D : va_G) (cI cR : ClassId) (cc : ByteArray) (nL : Nat) (y : MethodName) : Prop := match G with
  | (p, l', _, R', s, m, args, _, meth, c, D', cI', cR', A, nL', _) => (l' = l ∧ R' = R ∧ D' = D ∧ cI' = cI ∧ cR' = cR ∧ nL' = nL) ∧ p.tables.exec = Jvm.exec ∧ c.code = cc ∧ (∀ w ∈ lw_g, w.before args s = true) ∧ s.vm.findClass y.cls = some m.cls ∧ va_K D vwCl (tysE cI cR) s ∧ c.maxLocals = nL ∧ meth.locks = false ∧ (∀ q, s.heap.size ≤ q → A q) ∧ nestOk s ∧ meth.name = y.name
/-- how a method may end: its answer and its world -/
def En (G : Cxt) (ret : Option FieldType) (Post : Option Value → va_W → Prop) (mc ms : Nat) : Prop := match G with
  | (_, _, _, _, s, _, args, below, meth, _, D, _, _, A, _, Q) => ∃ (Qc : Array Value → State → Outcome → State → Prop) (free : Addr → Prop), Q = MQ below Qc args s mc ms free ∧ meth.sig.returnType = ret ∧ (∀ q, A q → free q) ∧ ∀ (v : Option Value) (ws : va_W) (H : Heap) (locs : List Loc) (t : State), Post v ws → va_P D vwCl ws H → va_D A ws → va_S A s.heap H locs → t.heap = H → s.WarmedH t.vm → Qc args s (.returned v) t
/-- what a class of the worlds is -/
def ClsOk (Cn : String) (T : u_T) (N : Nat) (ty : Nat → FieldType) (ci : Nat) : Prop := (∀ w ∈ u_ws Cn T N, w ∈ lw_g) ∧ (∀ k, k < N → parseFieldDescriptor (T k).2.2.1 = some (ty k)) ∧ (∀ a, a < N → ∀ b, b < N → a ≠ b → (T a).2.1 ≠ (T b).2.1) ∧ vwCl[ci]? = some (Cn, T, N) ∧ ∀ k, k < N → (T k).1 = Cn
section Rows
variable {G : Cxt} {l : Launch} {R : Room} {D : va_G} {cI cR : ClassId} {cc : ByteArray} {nL : Nat} {y : MethodName} {k n pc pc2 : Nat} {lv : List (Nat × Value)} {st : List Value} {ws : va_W}
/-- locals: fewer, or in another order -/
theorem r_lv {lv2 : List (Nat × Value)} (ks : List Nat) (h : lv_pick lv ks = lv2) (kk : Wr G k n pc lv2 st ws) : Wr G k n pc lv st ws := by
  obtain ⟨p, l, e, R, s, m, args, below, meth, c, D, cI, cR, A, nL, Q⟩ := G
  intro H locs ls hP hD hS hl
  exact kk H locs ls hP hD hS (lv_sub hl ks h)
theorem r_w {ws2 : va_W} (h : ws = ws2) (kk : Wr G k n pc lv st ws2) : Wr G k n pc lv st ws := h ▸ kk
/-- the world: fewer cells, or in another order -/
theorem r_ws {ws2 : va_W} (is : List Nat) (h : is.map (fun i => ws[i]?) = ws2.map some) (hn : va_nd is = true) (kk : Wr G k n pc lv st ws2) : Wr G k n pc lv st ws := by
  obtain ⟨p, l, e, R, s, m, args, below, meth, c, D, cI, cR, A, nL, Q⟩ := G
  intro H locs ls hP hD hS hl
  refine kk H locs ls ?_ (hD.sub is hn h) hS hl
  intro j q hq
  have h1 : (is.map (fun i => ws[i]?))[j]? = some (some q) := by rw [h, List.getElem?_map, hq]; rfl
  rw [List.getElem?_map] at h1
  cases hi : is[j]? with
  | none => rw [hi] at h1; cases h1
  | some i => rw [hi] at h1; exact hP i q (Option.some.inj h1)
theorem r_widen {k2 n2 : Nat} (h1 : k ≤ k2) (h2 : n ≤ n2) (kk : Wr G k2 n2 pc lv st ws) : Wr G k n pc lv st ws := by
  obtain ⟨p, l, e, R, s, m, args, below, meth, c, D, cI, cR, A, nL, Q⟩ := G
  intro H locs ls hP hD hS hl
  exact W.widen h1 h2 (kk H locs ls hP hD hS hl)
theorem r_iconst (C : Ok G l R D cI cR cc nL y) {z : Int} {v : Int32} (hd : Dc cc pc 1 pc2 (.iconst z)) (hv : Int32.ofInt z = v) (kk : Wr G k n pc2 lv (.int v :: st) ws) : Wr G k n pc lv st ws := by
  obtain ⟨p, l, e, R, s, m, args, below, meth, c, D, cI, cR, A, nL, Q⟩ := G
  obtain ⟨⟨rfl, rfl, rfl, rfl, rfl, rfl⟩, hx, hb, hts, hown, hK, hml, hlocks, hA, hN, hmn⟩ := C
  obtain ⟨hd, rfl⟩ := hd
  intro H locs ls hP hD hS hl
  exact lv_iconst hx hb hd hv (kk H locs ls hP hD hS hl)
theorem r_bipush (C : Ok G l R D cI cR cc nL y) {z : Int} {v : Int32} (hd : Dc cc pc 2 pc2 (.bipush z)) (hv : (Int8.ofInt z).toInt32 = v) (kk : Wr G k n pc2 lv (.int v :: st) ws) : Wr G k n pc lv st ws := by
  obtain ⟨p, l, e, R, s, m, args, below, meth, c, D, cI, cR, A, nL, Q⟩ := G
  obtain ⟨⟨rfl, rfl, rfl, rfl, rfl, rfl⟩, hx, hb, hts, hown, hK, hml, hlocks, hA, hN, hmn⟩ := C
  obtain ⟨hd, rfl⟩ := hd
  intro H locs ls hP hD hS hl
  exact lv_bipush hx hb hd hv (kk H locs ls hP hD hS hl)
theorem r_sipush (C : Ok G l R D cI cR cc nL y) {z : Int} {v : Int32} (hd : Dc cc pc 3 pc2 (.sipush z)) (hv : (Int16.ofInt z).toInt32 = v) (kk : Wr G k n pc2 lv (.int v :: st) ws) : Wr G k n pc lv st ws := by
  obtain ⟨p, l, e, R, s, m, args, below, meth, c, D, cI, cR, A, nL, Q⟩ := G
  obtain ⟨⟨rfl, rfl, rfl, rfl, rfl, rfl⟩, hx, hb, hts, hown, hK, hml, hlocks, hA, hN, hmn⟩ := C
  obtain ⟨hd, rfl⟩ := hd
  intro H locs ls hP hD hS hl
  exact lv_sipush hx hb hd hv (kk H locs ls hP hD hS hl)
theorem r_ldci (C : Ok G l R D cI cR cc nL y) {index : Nat} {v : Int32} (hd : Dc cc pc 2 pc2 (.ldc index)) (hq : Cond.constant y.cls index v ∈ lw_g) (kk : Wr G k n pc2 lv (.int v :: st) ws) : Wr G k n pc lv st ws := by
  obtain ⟨p, l, e, R, s, m, args, below, meth, c, D, cI, cR, A, nL, Q⟩ := G
  obtain ⟨⟨rfl, rfl, rfl, rfl, rfl, rfl⟩, hx, hb, hts, hown, hK, hml, hlocks, hA, hN, hmn⟩ := C
  obtain ⟨hd, rfl⟩ := hd
  intro H locs ls hP hD hS hl
  exact lv_ldc hx hb hown (hts _ hq) hd (kk H locs ls hP hD hS hl)
theorem r_ldcf (C : Ok G l R D cI cR cc nL y) {index : Nat} {v : UInt32} (hd : Dc cc pc 2 pc2 (.ldc index)) (hq : Cond.constantFloat y.cls index v ∈ lw_g) (kk : Wr G k n pc2 lv (.float v :: st) ws) : Wr G k n pc lv st ws := by
  obtain ⟨p, l, e, R, s, m, args, below, meth, c, D, cI, cR, A, nL, Q⟩ := G
  obtain ⟨⟨rfl, rfl, rfl, rfl, rfl, rfl⟩, hx, hb, hts, hown, hK, hml, hlocks, hA, hN, hmn⟩ := C
  obtain ⟨hd, rfl⟩ := hd
  intro H locs ls hP hD hS hl
  exact lv_ldcf hx hb hown (hts _ hq) hd (kk H locs ls hP hD hS hl)
theorem r_ldcw (C : Ok G l R D cI cR cc nL y) {index : Nat} {v : Int32} (hd : Dc cc pc 3 pc2 (.ldc_w index)) (hq : Cond.constant y.cls index v ∈ lw_g) (kk : Wr G k n pc2 lv (.int v :: st) ws) : Wr G k n pc lv st ws := by
  obtain ⟨p, l, e, R, s, m, args, below, meth, c, D, cI, cR, A, nL, Q⟩ := G
  obtain ⟨⟨rfl, rfl, rfl, rfl, rfl, rfl⟩, hx, hb, hts, hown, hK, hml, hlocks, hA, hN, hmn⟩ := C
  obtain ⟨hd, rfl⟩ := hd
  intro H locs ls hP hD hS hl
  exact lv_ldcw hx hb hown (hts _ hq) hd (kk H locs ls hP hD hS hl)
theorem r_ldc2 (C : Ok G l R D cI cR cc nL y) {index : Nat} {v : Int64} (hd : Dc cc pc 3 pc2 (.ldc2_w index)) (hq : Cond.constantLong y.cls index v ∈ lw_g) (kk : Wr G k n pc2 lv (.long v :: st) ws) : Wr G k n pc lv st ws := by
  obtain ⟨p, l, e, R, s, m, args, below, meth, c, D, cI, cR, A, nL, Q⟩ := G
  obtain ⟨⟨rfl, rfl, rfl, rfl, rfl, rfl⟩, hx, hb, hts, hown, hK, hml, hlocks, hA, hN, hmn⟩ := C
  obtain ⟨hd, rfl⟩ := hd
  intro H locs ls hP hD hS hl
  exact lv_ldc2 hx hb hown (hts _ hq) hd (kk H locs ls hP hD hS hl)
theorem r_iload_n (C : Ok G l R D cI cR cc nL y) {i : Fin 4} {x : Int32} (hd : Dc cc pc 1 pc2 (.iload_n i)) (j : Nat) (hl : lv[j]? = some ((i : Nat), .int x)) (kk : Wr G k n pc2 lv (.int x :: st) ws) : Wr G k n pc lv st ws := by
  obtain ⟨p, l, e, R, s, m, args, below, meth, c, D, cI, cR, A, nL, Q⟩ := G
  obtain ⟨⟨rfl, rfl, rfl, rfl, rfl, rfl⟩, hx, hb, hts, hown, hK, hml, hlocks, hA, hN, hmn⟩ := C
  obtain ⟨hd, rfl⟩ := hd
  intro H locs ls hP hD hS hlv
  exact lv_iload_n hx hb hd rfl (lv_at hlv j hl) (kk H locs ls hP hD hS hlv)
theorem r_iload (C : Ok G l R D cI cR cc nL y) {i : Nat} {x : Int32} (hd : Dc cc pc 2 pc2 (.iload i)) (j : Nat) (hl : lv[j]? = some (i, .int x)) (kk : Wr G k n pc2 lv (.int x :: st) ws) : Wr G k n pc lv st ws := by
  obtain ⟨p, l, e, R, s, m, args, below, meth, c, D, cI, cR, A, nL, Q⟩ := G
  obtain ⟨⟨rfl, rfl, rfl, rfl, rfl, rfl⟩, hx, hb, hts, hown, hK, hml, hlocks, hA, hN, hmn⟩ := C
  obtain ⟨hd, rfl⟩ := hd
  intro H locs ls hP hD hS hlv
  exact lv_iload hx hb hd (lv_at hlv j hl) (kk H locs ls hP hD hS hlv)
theorem r_lload_n (C : Ok G l R D cI cR cc nL y) {i : Fin 4} {x : Int64} (hd : Dc cc pc 1 pc2 (.lload_n i)) (j : Nat) (hl : lv[j]? = some ((i : Nat), .long x)) (kk : Wr G k n pc2 lv (.long x :: st) ws) : Wr G k n pc lv st ws := by
  obtain ⟨p, l, e, R, s, m, args, below, meth, c, D, cI, cR, A, nL, Q⟩ := G
  obtain ⟨⟨rfl, rfl, rfl, rfl, rfl, rfl⟩, hx, hb, hts, hown, hK, hml, hlocks, hA, hN, hmn⟩ := C
  obtain ⟨hd, rfl⟩ := hd
  intro H locs ls hP hD hS hlv
  exact lv_lload_n hx hb hd rfl (lv_at hlv j hl) (kk H locs ls hP hD hS hlv)
theorem r_fload_n (C : Ok G l R D cI cR cc nL y) {i : Fin 4} {x : UInt32} (hd : Dc cc pc 1 pc2 (.fload_n i)) (j : Nat) (hl : lv[j]? = some ((i : Nat), .float x)) (kk : Wr G k n pc2 lv (.float x :: st) ws) : Wr G k n pc lv st ws := by
  obtain ⟨p, l, e, R, s, m, args, below, meth, c, D, cI, cR, A, nL, Q⟩ := G
  obtain ⟨⟨rfl, rfl, rfl, rfl, rfl, rfl⟩, hx, hb, hts, hown, hK, hml, hlocks, hA, hN, hmn⟩ := C
  obtain ⟨hd, rfl⟩ := hd
  intro H locs ls hP hD hS hlv
  exact lv_fload_n hx hb hd rfl (lv_at hlv j hl) (kk H locs ls hP hD hS hlv)
theorem r_aload_n (C : Ok G l R D cI cR cc nL y) {i : Fin 4} {x : Nat} (hd : Dc cc pc 1 pc2 (.aload_n i)) (j : Nat) (hl : lv[j]? = some ((i : Nat), .ref x)) (kk : Wr G k n pc2 lv (.ref x :: st) ws) : Wr G k n pc lv st ws := by
  obtain ⟨p, l, e, R, s, m, args, below, meth, c, D, cI, cR, A, nL, Q⟩ := G
  obtain ⟨⟨rfl, rfl, rfl, rfl, rfl, rfl⟩, hx, hb, hts, hown, hK, hml, hlocks, hA, hN, hmn⟩ := C
  obtain ⟨hd, rfl⟩ := hd
  intro H locs ls hP hD hS hlv
  exact lv_aload_n hx hb hd rfl (lv_at hlv j hl) (kk H locs ls hP hD hS hlv)
theorem r_istore_n (C : Ok G l R D cI cR cc nL y) {i : Fin 4} {x : Int32} {lv2 : List (Nat × Value)} (hd : Dc cc pc 1 pc2 (.istore_n i)) (hn : (i : Nat) < nL) (hl : ((i : Nat), Value.int x) :: lv.filter (fun q => !(q.1 == (i : Nat)) && !(q.1 + 1 == (i : Nat) && q.2.category == 2)) = lv2) (kk : Wr G k n pc2 lv2 st ws) : Wr G k n pc lv (.int x :: st) ws := by
  obtain ⟨p, l, e, R, s, m, args, below, meth, c, D, cI, cR, A, nL, Q⟩ := G
  obtain ⟨⟨rfl, rfl, rfl, rfl, rfl, rfl⟩, hx, hb, hts, hown, hK, hml, hlocks, hA, hN, hmn⟩ := C
  obtain ⟨hd, rfl⟩ := hd
  intro H locs ls hP hD hS hlv
  exact lv_istore_n hx hb hd rfl hlv hn hl (fun ls hlv => kk H locs ls hP hD hS hlv)
theorem r_istore (C : Ok G l R D cI cR cc nL y) {i : Nat} {x : Int32} {lv2 : List (Nat × Value)} (hd : Dc cc pc 2 pc2 (.istore i)) (hn : i < nL) (hl : (i, Value.int x) :: lv.filter (fun q => !(q.1 == i) && !(q.1 + 1 == i && q.2.category == 2)) = lv2) (kk : Wr G k n pc2 lv2 st ws) : Wr G k n pc lv (.int x :: st) ws := by
  obtain ⟨p, l, e, R, s, m, args, below, meth, c, D, cI, cR, A, nL, Q⟩ := G
  obtain ⟨⟨rfl, rfl, rfl, rfl, rfl, rfl⟩, hx, hb, hts, hown, hK, hml, hlocks, hA, hN, hmn⟩ := C
  obtain ⟨hd, rfl⟩ := hd
  intro H locs ls hP hD hS hlv
  exact lv_istore hx hb hd hlv hn hl (fun ls hlv => kk H locs ls hP hD hS hlv)
theorem r_lstore_n (C : Ok G l R D cI cR cc nL y) {i : Fin 4} {x : Int64} {lv2 : List (Nat × Value)} (hd : Dc cc pc 1 pc2 (.lstore_n i)) (hn : (i : Nat) + 1 < nL) (hl : ((i : Nat), Value.long x) :: lv.filter (fun q => !(q.1 == (i : Nat)) && (!(q.1 == (i : Nat) + 1) && !(q.1 + 1 == (i : Nat) && q.2.category == 2))) = lv2) (kk : Wr G k n pc2 lv2 st ws) : Wr G k n pc lv (.long x :: st) ws := by
  obtain ⟨p, l, e, R, s, m, args, below, meth, c, D, cI, cR, A, nL, Q⟩ := G
  obtain ⟨⟨rfl, rfl, rfl, rfl, rfl, rfl⟩, hx, hb, hts, hown, hK, hml, hlocks, hA, hN, hmn⟩ := C
  obtain ⟨hd, rfl⟩ := hd
  intro H locs ls hP hD hS hlv
  exact lv_lstore_n hx hb hd rfl hlv hn hl (fun ls hlv => kk H locs ls hP hD hS hlv)
theorem r_fstore_n (C : Ok G l R D cI cR cc nL y) {i : Fin 4} {x : UInt32} {lv2 : List (Nat × Value)} (hd : Dc cc pc 1 pc2 (.fstore_n i)) (hn : (i : Nat) < nL) (hl : ((i : Nat), Value.float x) :: lv.filter (fun q => !(q.1 == (i : Nat)) && !(q.1 + 1 == (i : Nat) && q.2.category == 2)) = lv2) (kk : Wr G k n pc2 lv2 st ws) : Wr G k n pc lv (.float x :: st) ws := by
  obtain ⟨p, l, e, R, s, m, args, below, meth, c, D, cI, cR, A, nL, Q⟩ := G
  obtain ⟨⟨rfl, rfl, rfl, rfl, rfl, rfl⟩, hx, hb, hts, hown, hK, hml, hlocks, hA, hN, hmn⟩ := C
  obtain ⟨hd, rfl⟩ := hd
  intro H locs ls hP hD hS hlv
  exact lv_fstore_n hx hb hd rfl hlv hn hl (fun ls hlv => kk H locs ls hP hD hS hlv)
theorem r_astore_n (C : Ok G l R D cI cR cc nL y) {i : Fin 4} {x : Nat} {lv2 : List (Nat × Value)} (hd : Dc cc pc 1 pc2 (.astore_n i)) (hn : (i : Nat) < nL) (hl : ((i : Nat), Value.ref x) :: lv.filter (fun q => !(q.1 == (i : Nat)) && !(q.1 + 1 == (i : Nat) && q.2.category == 2)) = lv2) (kk : Wr G k n pc2 lv2 st ws) : Wr G k n pc lv (.ref x :: st) ws := by
  obtain ⟨p, l, e, R, s, m, args, below, meth, c, D, cI, cR, A, nL, Q⟩ := G
  obtain ⟨⟨rfl, rfl, rfl, rfl, rfl, rfl⟩, hx, hb, hts, hown, hK, hml, hlocks, hA, hN, hmn⟩ := C
  obtain ⟨hd, rfl⟩ := hd
  intro H locs ls hP hD hS hlv
  exact lv_astore_n hx hb hd rfl hlv hn hl (fun ls hlv => kk H locs ls hP hD hS hlv)
theorem r_iinc (C : Ok G l R D cI cR cc nL y) {i : Nat} {z : Int} {x v : Int32} {lv2 : List (Nat × Value)} (hd : Dc cc pc 3 pc2 (.iinc i z)) (j : Nat) (hj : lv[j]? = some (i, .int x)) (hv : x + Int32.ofInt z = v) (hn : i < nL) (hl : (i, Value.int v) :: lv.filter (fun q => !(q.1 == i) && !(q.1 + 1 == i && q.2.category == 2)) = lv2) (kk : Wr G k n pc2 lv2 st ws) : Wr G k n pc lv st ws := by
  obtain ⟨p, l, e, R, s, m, args, below, meth, c, D, cI, cR, A, nL, Q⟩ := G
  obtain ⟨⟨rfl, rfl, rfl, rfl, rfl, rfl⟩, hx, hb, hts, hown, hK, hml, hlocks, hA, hN, hmn⟩ := C
  obtain ⟨hd, rfl⟩ := hd
  intro H locs ls hP hD hS hlv
  exact lv_iinc hx hb hd hlv hj hv hn hl (fun ls hlv => kk H locs ls hP hD hS hlv)
theorem r_iadd (C : Ok G l R D cI cR cc nL y) {x y0 : Int32} (hd : Dc cc pc 1 pc2 .iadd) (kk : Wr G k n pc2 lv (.int (x + y0) :: st) ws) : Wr G k n pc lv (.int y0 :: .int x :: st) ws := by
  obtain ⟨p, l, e, R, s, m, args, below, meth, c, D, cI, cR, A, nL, Q⟩ := G
  obtain ⟨⟨rfl, rfl, rfl, rfl, rfl, rfl⟩, hx, hb, hts, hown, hK, hml, hlocks, hA, hN, hmn⟩ := C
  obtain ⟨hd, rfl⟩ := hd
  intro H locs ls hP hD hS hl
  exact lv_iadd hx hb hd (kk H locs ls hP hD hS hl)
theorem r_isub (C : Ok G l R D cI cR cc nL y) {x y0 : Int32} (hd : Dc cc pc 1 pc2 .isub) (kk : Wr G k n pc2 lv (.int (x - y0) :: st) ws) : Wr G k n pc lv (.int y0 :: .int x :: st) ws := by
  obtain ⟨p, l, e, R, s, m, args, below, meth, c, D, cI, cR, A, nL, Q⟩ := G
  obtain ⟨⟨rfl, rfl, rfl, rfl, rfl, rfl⟩, hx, hb, hts, hown, hK, hml, hlocks, hA, hN, hmn⟩ := C
  obtain ⟨hd, rfl⟩ := hd
  intro H locs ls hP hD hS hl
  exact lv_isub hx hb hd (kk H locs ls hP hD hS hl)
theorem r_imul (C : Ok G l R D cI cR cc nL y) {x y0 : Int32} (hd : Dc cc pc 1 pc2 .imul) (kk : Wr G k n pc2 lv (.int (x * y0) :: st) ws) : Wr G k n pc lv (.int y0 :: .int x :: st) ws := by
  obtain ⟨p, l, e, R, s, m, args, below, meth, c, D, cI, cR, A, nL, Q⟩ := G
  obtain ⟨⟨rfl, rfl, rfl, rfl, rfl, rfl⟩, hx, hb, hts, hown, hK, hml, hlocks, hA, hN, hmn⟩ := C
  obtain ⟨hd, rfl⟩ := hd
  intro H locs ls hP hD hS hl
  exact lv_imul hx hb hd (kk H locs ls hP hD hS hl)
theorem r_iand (C : Ok G l R D cI cR cc nL y) {x y0 : Int32} (hd : Dc cc pc 1 pc2 .iand) (kk : Wr G k n pc2 lv (.int (x &&& y0) :: st) ws) : Wr G k n pc lv (.int y0 :: .int x :: st) ws := by
  obtain ⟨p, l, e, R, s, m, args, below, meth, c, D, cI, cR, A, nL, Q⟩ := G
  obtain ⟨⟨rfl, rfl, rfl, rfl, rfl, rfl⟩, hx, hb, hts, hown, hK, hml, hlocks, hA, hN, hmn⟩ := C
  obtain ⟨hd, rfl⟩ := hd
  intro H locs ls hP hD hS hl
  exact lv_iand hx hb hd (kk H locs ls hP hD hS hl)
theorem r_ior (C : Ok G l R D cI cR cc nL y) {x y0 : Int32} (hd : Dc cc pc 1 pc2 .ior) (kk : Wr G k n pc2 lv (.int (x ||| y0) :: st) ws) : Wr G k n pc lv (.int y0 :: .int x :: st) ws := by
  obtain ⟨p, l, e, R, s, m, args, below, meth, c, D, cI, cR, A, nL, Q⟩ := G
  obtain ⟨⟨rfl, rfl, rfl, rfl, rfl, rfl⟩, hx, hb, hts, hown, hK, hml, hlocks, hA, hN, hmn⟩ := C
  obtain ⟨hd, rfl⟩ := hd
  intro H locs ls hP hD hS hl
  exact lv_ior hx hb hd (kk H locs ls hP hD hS hl)
theorem r_ixor (C : Ok G l R D cI cR cc nL y) {x y0 : Int32} (hd : Dc cc pc 1 pc2 .ixor) (kk : Wr G k n pc2 lv (.int (x ^^^ y0) :: st) ws) : Wr G k n pc lv (.int y0 :: .int x :: st) ws := by
  obtain ⟨p, l, e, R, s, m, args, below, meth, c, D, cI, cR, A, nL, Q⟩ := G
  obtain ⟨⟨rfl, rfl, rfl, rfl, rfl, rfl⟩, hx, hb, hts, hown, hK, hml, hlocks, hA, hN, hmn⟩ := C
  obtain ⟨hd, rfl⟩ := hd
  intro H locs ls hP hD hS hl
  exact lv_ixor hx hb hd (kk H locs ls hP hD hS hl)
theorem r_ishl (C : Ok G l R D cI cR cc nL y) {x y0 : Int32} (hd : Dc cc pc 1 pc2 .ishl) (kk : Wr G k n pc2 lv (.int (x <<< (y0 &&& 31)) :: st) ws) : Wr G k n pc lv (.int y0 :: .int x :: st) ws := by
  obtain ⟨p, l, e, R, s, m, args, below, meth, c, D, cI, cR, A, nL, Q⟩ := G
  obtain ⟨⟨rfl, rfl, rfl, rfl, rfl, rfl⟩, hx, hb, hts, hown, hK, hml, hlocks, hA, hN, hmn⟩ := C
  obtain ⟨hd, rfl⟩ := hd
  intro H locs ls hP hD hS hl
  exact lv_ishl hx hb hd (kk H locs ls hP hD hS hl)
theorem r_ishr (C : Ok G l R D cI cR cc nL y) {x y0 : Int32} (hd : Dc cc pc 1 pc2 .ishr) (kk : Wr G k n pc2 lv (.int (x >>> (y0 &&& 31)) :: st) ws) : Wr G k n pc lv (.int y0 :: .int x :: st) ws := by
  obtain ⟨p, l, e, R, s, m, args, below, meth, c, D, cI, cR, A, nL, Q⟩ := G
  obtain ⟨⟨rfl, rfl, rfl, rfl, rfl, rfl⟩, hx, hb, hts, hown, hK, hml, hlocks, hA, hN, hmn⟩ := C
  obtain ⟨hd, rfl⟩ := hd
  intro H locs ls hP hD hS hl
  exact lv_ishr hx hb hd (kk H locs ls hP hD hS hl)
theorem r_iushr (C : Ok G l R D cI cR cc nL y) {x y0 v : Int32} (hd : Dc cc pc 1 pc2 .iushr) (hv : (x.toUInt32 >>> (y0.toUInt32 &&& Int32.toUInt32 31)).toInt32 = v) (kk : Wr G k n pc2 lv (.int v :: st) ws) : Wr G k n pc lv (.int y0 :: .int x :: st) ws := by
  obtain ⟨p, l, e, R, s, m, args, below, meth, c, D, cI, cR, A, nL, Q⟩ := G
  obtain ⟨⟨rfl, rfl, rfl, rfl, rfl, rfl⟩, hx, hb, hts, hown, hK, hml, hlocks, hA, hN, hmn⟩ := C
  obtain ⟨hd, rfl⟩ := hd
  intro H locs ls hP hD hS hl
  exact lv_iushr hx hb hd hv (kk H locs ls hP hD hS hl)
theorem r_idiv (C : Ok G l R D cI cR cc nL y) {x y0 : Int32} (hd : Dc cc pc 1 pc2 .idiv) (hne : ¬ y0 = 0) (kk : Wr G k n pc2 lv (.int (x / y0) :: st) ws) : Wr G k n pc lv (.int y0 :: .int x :: st) ws := by
  obtain ⟨p, l, e, R, s, m, args, below, meth, c, D, cI, cR, A, nL, Q⟩ := G
  obtain ⟨⟨rfl, rfl, rfl, rfl, rfl, rfl⟩, hx, hb, hts, hown, hK, hml, hlocks, hA, hN, hmn⟩ := C
  obtain ⟨hd, rfl⟩ := hd
  intro H locs ls hP hD hS hl
  exact lv_idiv hx hb hd hne (kk H locs ls hP hD hS hl)
theorem r_irem (C : Ok G l R D cI cR cc nL y) {x y0 : Int32} (hd : Dc cc pc 1 pc2 .irem) (hne : ¬ y0 = 0) (kk : Wr G k n pc2 lv (.int (x - x / y0 * y0) :: st) ws) : Wr G k n pc lv (.int y0 :: .int x :: st) ws := by
  obtain ⟨p, l, e, R, s, m, args, below, meth, c, D, cI, cR, A, nL, Q⟩ := G
  obtain ⟨⟨rfl, rfl, rfl, rfl, rfl, rfl⟩, hx, hb, hts, hown, hK, hml, hlocks, hA, hN, hmn⟩ := C
  obtain ⟨hd, rfl⟩ := hd
  intro H locs ls hP hD hS hl
  exact lv_irem hx hb hd hne (kk H locs ls hP hD hS hl)
theorem r_ineg (C : Ok G l R D cI cR cc nL y) {x : Int32} (hd : Dc cc pc 1 pc2 .ineg) (kk : Wr G k n pc2 lv (.int (-x) :: st) ws) : Wr G k n pc lv (.int x :: st) ws := by
  obtain ⟨p, l, e, R, s, m, args, below, meth, c, D, cI, cR, A, nL, Q⟩ := G
  obtain ⟨⟨rfl, rfl, rfl, rfl, rfl, rfl⟩, hx, hb, hts, hown, hK, hml, hlocks, hA, hN, hmn⟩ := C
  obtain ⟨hd, rfl⟩ := hd
  intro H locs ls hP hD hS hl
  exact lv_ineg hx hb hd (kk H locs ls hP hD hS hl)
theorem r_ladd (C : Ok G l R D cI cR cc nL y) {x y0 : Int64} (hd : Dc cc pc 1 pc2 .ladd) (kk : Wr G k n pc2 lv (.long (x + y0) :: st) ws) : Wr G k n pc lv (.long y0 :: .long x :: st) ws := by
  obtain ⟨p, l, e, R, s, m, args, below, meth, c, D, cI, cR, A, nL, Q⟩ := G
  obtain ⟨⟨rfl, rfl, rfl, rfl, rfl, rfl⟩, hx, hb, hts, hown, hK, hml, hlocks, hA, hN, hmn⟩ := C
  obtain ⟨hd, rfl⟩ := hd
  intro H locs ls hP hD hS hl
  exact lv_ladd hx hb hd (kk H locs ls hP hD hS hl)
theorem r_lmul (C : Ok G l R D cI cR cc nL y) {x y0 : Int64} (hd : Dc cc pc 1 pc2 .lmul) (kk : Wr G k n pc2 lv (.long (x * y0) :: st) ws) : Wr G k n pc lv (.long y0 :: .long x :: st) ws := by
  obtain ⟨p, l, e, R, s, m, args, below, meth, c, D, cI, cR, A, nL, Q⟩ := G
  obtain ⟨⟨rfl, rfl, rfl, rfl, rfl, rfl⟩, hx, hb, hts, hown, hK, hml, hlocks, hA, hN, hmn⟩ := C
  obtain ⟨hd, rfl⟩ := hd
  intro H locs ls hP hD hS hl
  exact lv_lmul hx hb hd (kk H locs ls hP hD hS hl)
theorem r_lcmp (C : Ok G l R D cI cR cc nL y) {x y0 : Int64} (hd : Dc cc pc 1 pc2 .lcmp) (kk : Wr G k n pc2 lv (.int (lg_cmp x y0) :: st) ws) : Wr G k n pc lv (.long y0 :: .long x :: st) ws := by
  obtain ⟨p, l, e, R, s, m, args, below, meth, c, D, cI, cR, A, nL, Q⟩ := G
  obtain ⟨⟨rfl, rfl, rfl, rfl, rfl, rfl⟩, hx, hb, hts, hown, hK, hml, hlocks, hA, hN, hmn⟩ := C
  obtain ⟨hd, rfl⟩ := hd
  intro H locs ls hP hD hS hl
  exact W.lcmp hx hb hd (kk H locs ls hP hD hS hl)
theorem r_i2l (C : Ok G l R D cI cR cc nL y) {x : Int32} (hd : Dc cc pc 1 pc2 .i2l) (kk : Wr G k n pc2 lv (.long x.toInt64 :: st) ws) : Wr G k n pc lv (.int x :: st) ws := by
  obtain ⟨p, l, e, R, s, m, args, below, meth, c, D, cI, cR, A, nL, Q⟩ := G
  obtain ⟨⟨rfl, rfl, rfl, rfl, rfl, rfl⟩, hx, hb, hts, hown, hK, hml, hlocks, hA, hN, hmn⟩ := C
  obtain ⟨hd, rfl⟩ := hd
  intro H locs ls hP hD hS hl
  exact lv_i2l hx hb hd rfl (kk H locs ls hP hD hS hl)
theorem r_i2f (C : Ok G l R D cI cR cc nL y) {x : Int32} (hd : Dc cc pc 1 pc2 .i2f) (kk : Wr G k n pc2 lv (.float (FP.i2f x) :: st) ws) : Wr G k n pc lv (.int x :: st) ws := by
  obtain ⟨p, l, e, R, s, m, args, below, meth, c, D, cI, cR, A, nL, Q⟩ := G
  obtain ⟨⟨rfl, rfl, rfl, rfl, rfl, rfl⟩, hx, hb, hts, hown, hK, hml, hlocks, hA, hN, hmn⟩ := C
  obtain ⟨hd, rfl⟩ := hd
  intro H locs ls hP hD hS hl
  exact lv_i2f hx hb hd (kk H locs ls hP hD hS hl)
theorem r_f2i (C : Ok G l R D cI cR cc nL y) {x : UInt32} (hd : Dc cc pc 1 pc2 .f2i) (kk : Wr G k n pc2 lv (.int (FP.f2i x) :: st) ws) : Wr G k n pc lv (.float x :: st) ws := by
  obtain ⟨p, l, e, R, s, m, args, below, meth, c, D, cI, cR, A, nL, Q⟩ := G
  obtain ⟨⟨rfl, rfl, rfl, rfl, rfl, rfl⟩, hx, hb, hts, hown, hK, hml, hlocks, hA, hN, hmn⟩ := C
  obtain ⟨hd, rfl⟩ := hd
  intro H locs ls hP hD hS hl
  exact lv_f2i hx hb hd (kk H locs ls hP hD hS hl)
theorem r_fdiv (C : Ok G l R D cI cR cc nL y) {x y0 : UInt32} (hd : Dc cc pc 1 pc2 .fdiv) (hne : vf_n32 (FP.fdiv x y0)) (kk : Wr G k n pc2 lv (.float (FP.fdiv x y0) :: st) ws) : Wr G k n pc lv (.float y0 :: .float x :: st) ws := by
  obtain ⟨p, l, e, R, s, m, args, below, meth, c, D, cI, cR, A, nL, Q⟩ := G
  obtain ⟨⟨rfl, rfl, rfl, rfl, rfl, rfl⟩, hx, hb, hts, hown, hK, hml, hlocks, hA, hN, hmn⟩ := C
  obtain ⟨hd, rfl⟩ := hd
  intro H locs ls hP hD hS hl
  exact lv_fdiv hx hb hd hne (kk H locs ls hP hD hS hl)
theorem r_fmul (C : Ok G l R D cI cR cc nL y) {x y0 : UInt32} (hd : Dc cc pc 1 pc2 .fmul) (hne : vf_n32 (FP.fmul x y0)) (kk : Wr G k n pc2 lv (.float (FP.fmul x y0) :: st) ws) : Wr G k n pc lv (.float y0 :: .float x :: st) ws := by
  obtain ⟨p, l, e, R, s, m, args, below, meth, c, D, cI, cR, A, nL, Q⟩ := G
  obtain ⟨⟨rfl, rfl, rfl, rfl, rfl, rfl⟩, hx, hb, hts, hown, hK, hml, hlocks, hA, hN, hmn⟩ := C
  obtain ⟨hd, rfl⟩ := hd
  intro H locs ls hP hD hS hl
  exact lv_fmul hx hb hd hne (kk H locs ls hP hD hS hl)
theorem r_fsub (C : Ok G l R D cI cR cc nL y) {x y0 : UInt32} (hd : Dc cc pc 1 pc2 .fsub) (hne : vf_n32 (FP.fsub x y0)) (kk : Wr G k n pc2 lv (.float (FP.fsub x y0) :: st) ws) : Wr G k n pc lv (.float y0 :: .float x :: st) ws := by
  obtain ⟨p, l, e, R, s, m, args, below, meth, c, D, cI, cR, A, nL, Q⟩ := G
  obtain ⟨⟨rfl, rfl, rfl, rfl, rfl, rfl⟩, hx, hb, hts, hown, hK, hml, hlocks, hA, hN, hmn⟩ := C
  obtain ⟨hd, rfl⟩ := hd
  intro H locs ls hP hD hS hl
  exact lv_fsub hx hb hd hne (kk H locs ls hP hD hS hl)
theorem r_fcmp (C : Ok G l R D cI cR cc nL y) {x y0 : UInt32} {op : CmpOp} (hd : Dc cc pc 1 pc2 (.fcmp op)) (kk : Wr G k n pc2 lv (.int (Op.cmpValue (FP.fcmp x y0) op) :: st) ws) : Wr G k n pc lv (.float y0 :: .float x :: st) ws := by
  obtain ⟨p, l, e, R, s, m, args, below, meth, c, D, cI, cR, A, nL, Q⟩ := G
  obtain ⟨⟨rfl, rfl, rfl, rfl, rfl, rfl⟩, hx, hb, hts, hown, hK, hml, hlocks, hA, hN, hmn⟩ := C
  obtain ⟨hd, rfl⟩ := hd
  intro H locs ls hP hD hS hl
  exact lv_fcmp hx hb hd (kk H locs ls hP hD hS hl)
theorem r_fconst0 (C : Ok G l R D cI cR cc nL y) (hd : Dc cc pc 1 pc2 (.fconst 0)) (kk : Wr G k n pc2 lv (.float FP.fconst0 :: st) ws) : Wr G k n pc lv st ws := by
  obtain ⟨p, l, e, R, s, m, args, below, meth, c, D, cI, cR, A, nL, Q⟩ := G
  obtain ⟨⟨rfl, rfl, rfl, rfl, rfl, rfl⟩, hx, hb, hts, hown, hK, hml, hlocks, hA, hN, hmn⟩ := C
  obtain ⟨hd, rfl⟩ := hd
  intro H locs ls hP hD hS hl
  exact lv_fconst0 hx hb hd (kk H locs ls hP hD hS hl)
theorem r_fconst1 (C : Ok G l R D cI cR cc nL y) (hd : Dc cc pc 1 pc2 (.fconst 1)) (kk : Wr G k n pc2 lv (.float FP.fconst1 :: st) ws) : Wr G k n pc lv st ws := by
  obtain ⟨p, l, e, R, s, m, args, below, meth, c, D, cI, cR, A, nL, Q⟩ := G
  obtain ⟨⟨rfl, rfl, rfl, rfl, rfl, rfl⟩, hx, hb, hts, hown, hK, hml, hlocks, hA, hN, hmn⟩ := C
  obtain ⟨hd, rfl⟩ := hd
  intro H locs ls hP hD hS hl
  exact lv_fconst1 hx hb hd (kk H locs ls hP hD hS hl)
theorem r_fconst2 (C : Ok G l R D cI cR cc nL y) (hd : Dc cc pc 1 pc2 (.fconst 2)) (kk : Wr G k n pc2 lv (.float FP.fconst2 :: st) ws) : Wr G k n pc lv st ws := by
  obtain ⟨p, l, e, R, s, m, args, below, meth, c, D, cI, cR, A, nL, Q⟩ := G
  obtain ⟨⟨rfl, rfl, rfl, rfl, rfl, rfl⟩, hx, hb, hts, hown, hK, hml, hlocks, hA, hN, hmn⟩ := C
  obtain ⟨hd, rfl⟩ := hd
  intro H locs ls hP hD hS hl
  exact lv_fconst2 hx hb hd (kk H locs ls hP hD hS hl)
theorem r_dup (C : Ok G l R D cI cR cc nL y) {v : Value} (hd : Dc cc pc 1 pc2 .dup) (hv : v.category = 1) (kk : Wr G k n pc2 lv (v :: v :: st) ws) : Wr G k n pc lv (v :: st) ws := by
  obtain ⟨p, l, e, R, s, m, args, below, meth, c, D, cI, cR, A, nL, Q⟩ := G
  obtain ⟨⟨rfl, rfl, rfl, rfl, rfl, rfl⟩, hx, hb, hts, hown, hK, hml, hlocks, hA, hN, hmn⟩ := C
  obtain ⟨hd, rfl⟩ := hd
  intro H locs ls hP hD hS hl
  exact lv_dup hx hb hd hv (kk H locs ls hP hD hS hl)
theorem r_dup2 (C : Ok G l R D cI cR cc nL y) {v u : Value} (hd : Dc cc pc 1 pc2 .dup2) (hv : v.category = 1) (hu : u.category = 1) (kk : Wr G k n pc2 lv (v :: u :: v :: u :: st) ws) : Wr G k n pc lv (v :: u :: st) ws := by
  obtain ⟨p, l, e, R, s, m, args, below, meth, c, D, cI, cR, A, nL, Q⟩ := G
  obtain ⟨⟨rfl, rfl, rfl, rfl, rfl, rfl⟩, hx, hb, hts, hown, hK, hml, hlocks, hA, hN, hmn⟩ := C
  obtain ⟨hd, rfl⟩ := hd
  intro H locs ls hP hD hS hl
  exact lv_dup2_11 hx hb hd hv hu (kk H locs ls hP hD hS hl)
theorem r_goto (C : Ok G l R D cI cR cc nL y) {off : Int} {tgt : Nat} (hd : Dc cc pc 3 pc2 (.goto off)) (ht : (pc : Int) + off = (tgt : Int)) (kk : Wr G k n tgt lv st ws) : Wr G k n pc lv st ws := by
  obtain ⟨p, l, e, R, s, m, args, below, meth, c, D, cI, cR, A, nL, Q⟩ := G
  obtain ⟨⟨rfl, rfl, rfl, rfl, rfl, rfl⟩, hx, hb, hts, hown, hK, hml, hlocks, hA, hN, hmn⟩ := C
  obtain ⟨hd, rfl⟩ := hd
  intro H locs ls hP hD hS hl
  exact lv_goto hx hb hd ht (kk H locs ls hP hD hS hl)
theorem r_if_eq (C : Ok G l R D cI cR cc nL y) {x : Int32} {off : Int} {tgt : Nat} (hd : Dc cc pc 3 pc2 (.ifCond .eq off)) (ht : (pc : Int) + off = (tgt : Int)) (kt : x = 0 → Wr G k n tgt lv st ws) (kf : ¬ x = 0 → Wr G k n pc2 lv st ws) : Wr G k n pc lv (.int x :: st) ws := by
  obtain ⟨p, l, e, R, s, m, args, below, meth, c, D, cI, cR, A, nL, Q⟩ := G
  obtain ⟨⟨rfl, rfl, rfl, rfl, rfl, rfl⟩, hx, hb, hts, hown, hK, hml, hlocks, hA, hN, hmn⟩ := C
  obtain ⟨hd, rfl⟩ := hd
  intro H locs ls hP hD hS hl
  exact lv_if_eq hx hb hd ht (fun h => kt h H locs ls hP hD hS hl) (fun h => kf h H locs ls hP hD hS hl)
theorem r_if_ne (C : Ok G l R D cI cR cc nL y) {x : Int32} {off : Int} {tgt : Nat} (hd : Dc cc pc 3 pc2 (.ifCond .ne off)) (ht : (pc : Int) + off = (tgt : Int)) (kt : ¬ x = 0 → Wr G k n tgt lv st ws) (kf : x = 0 → Wr G k n pc2 lv st ws) : Wr G k n pc lv (.int x :: st) ws := by
  obtain ⟨p, l, e, R, s, m, args, below, meth, c, D, cI, cR, A, nL, Q⟩ := G
  obtain ⟨⟨rfl, rfl, rfl, rfl, rfl, rfl⟩, hx, hb, hts, hown, hK, hml, hlocks, hA, hN, hmn⟩ := C
  obtain ⟨hd, rfl⟩ := hd
  intro H locs ls hP hD hS hl
  exact lv_if_ne hx hb hd ht (fun h => kt h H locs ls hP hD hS hl) (fun h => kf h H locs ls hP hD hS hl)
theorem r_if_lt (C : Ok G l R D cI cR cc nL y) {x : Int32} {off : Int} {tgt : Nat} (hd : Dc cc pc 3 pc2 (.ifCond .lt off)) (ht : (pc : Int) + off = (tgt : Int)) (kt : x < 0 → Wr G k n tgt lv st ws) (kf : ¬ x < 0 → Wr G k n pc2 lv st ws) : Wr G k n pc lv (.int x :: st) ws := by
  obtain ⟨p, l, e, R, s, m, args, below, meth, c, D, cI, cR, A, nL, Q⟩ := G
  obtain ⟨⟨rfl, rfl, rfl, rfl, rfl, rfl⟩, hx, hb, hts, hown, hK, hml, hlocks, hA, hN, hmn⟩ := C
  obtain ⟨hd, rfl⟩ := hd
  intro H locs ls hP hD hS hl
  exact lv_if_lt hx hb hd ht (fun h => kt h H locs ls hP hD hS hl) (fun h => kf h H locs ls hP hD hS hl)
theorem r_if_le (C : Ok G l R D cI cR cc nL y) {x : Int32} {off : Int} {tgt : Nat} (hd : Dc cc pc 3 pc2 (.ifCond .le off)) (ht : (pc : Int) + off = (tgt : Int)) (kt : x ≤ 0 → Wr G k n tgt lv st ws) (kf : ¬ x ≤ 0 → Wr G k n pc2 lv st ws) : Wr G k n pc lv (.int x :: st) ws := by
  obtain ⟨p, l, e, R, s, m, args, below, meth, c, D, cI, cR, A, nL, Q⟩ := G
  obtain ⟨⟨rfl, rfl, rfl, rfl, rfl, rfl⟩, hx, hb, hts, hown, hK, hml, hlocks, hA, hN, hmn⟩ := C
  obtain ⟨hd, rfl⟩ := hd
  intro H locs ls hP hD hS hl
  exact lv_if_le hx hb hd ht (fun h => kt h H locs ls hP hD hS hl) (fun h => kf h H locs ls hP hD hS hl)
theorem r_if_ge (C : Ok G l R D cI cR cc nL y) {x : Int32} {off : Int} {tgt : Nat} (hd : Dc cc pc 3 pc2 (.ifCond .ge off)) (ht : (pc : Int) + off = (tgt : Int)) (kt : 0 ≤ x → Wr G k n tgt lv st ws) (kf : ¬ 0 ≤ x → Wr G k n pc2 lv st ws) : Wr G k n pc lv (.int x :: st) ws := by
  obtain ⟨p, l, e, R, s, m, args, below, meth, c, D, cI, cR, A, nL, Q⟩ := G
  obtain ⟨⟨rfl, rfl, rfl, rfl, rfl, rfl⟩, hx, hb, hts, hown, hK, hml, hlocks, hA, hN, hmn⟩ := C
  obtain ⟨hd, rfl⟩ := hd
  intro H locs ls hP hD hS hl
  exact lv_if_ge hx hb hd ht (fun h => kt h H locs ls hP hD hS hl) (fun h => kf h H locs ls hP hD hS hl)
theorem r_if_gt (C : Ok G l R D cI cR cc nL y) {x : Int32} {off : Int} {tgt : Nat} (hd : Dc cc pc 3 pc2 (.ifCond .gt off)) (ht : (pc : Int) + off = (tgt : Int)) (kt : 0 < x → Wr G k n tgt lv st ws) (kf : ¬ 0 < x → Wr G k n pc2 lv st ws) : Wr G k n pc lv (.int x :: st) ws := by
  obtain ⟨p, l, e, R, s, m, args, below, meth, c, D, cI, cR, A, nL, Q⟩ := G
  obtain ⟨⟨rfl, rfl, rfl, rfl, rfl, rfl⟩, hx, hb, hts, hown, hK, hml, hlocks, hA, hN, hmn⟩ := C
  obtain ⟨hd, rfl⟩ := hd
  intro H locs ls hP hD hS hl
  exact lv_if_gt hx hb hd ht (fun h => kt h H locs ls hP hD hS hl) (fun h => kf h H locs ls hP hD hS hl)
theorem r_icmp_eq (C : Ok G l R D cI cR cc nL y) {x y0 : Int32} {off : Int} {tgt : Nat} (hd : Dc cc pc 3 pc2 (.if_icmp .eq off)) (ht : (pc : Int) + off = (tgt : Int)) (kt : x = y0 → Wr G k n tgt lv st ws) (kf : ¬ x = y0 → Wr G k n pc2 lv st ws) : Wr G k n pc lv (.int y0 :: .int x :: st) ws := by
  obtain ⟨p, l, e, R, s, m, args, below, meth, c, D, cI, cR, A, nL, Q⟩ := G
  obtain ⟨⟨rfl, rfl, rfl, rfl, rfl, rfl⟩, hx, hb, hts, hown, hK, hml, hlocks, hA, hN, hmn⟩ := C
  obtain ⟨hd, rfl⟩ := hd
  intro H locs ls hP hD hS hl
  exact lv_icmp_eq hx hb hd ht (fun h => kt h H locs ls hP hD hS hl) (fun h => kf h H locs ls hP hD hS hl)
theorem r_icmp_ne (C : Ok G l R D cI cR cc nL y) {x y0 : Int32} {off : Int} {tgt : Nat} (hd : Dc cc pc 3 pc2 (.if_icmp .ne off)) (ht : (pc : Int) + off = (tgt : Int)) (kt : ¬ x = y0 → Wr G k n tgt lv st ws) (kf : x = y0 → Wr G k n pc2 lv st ws) : Wr G k n pc lv (.int y0 :: .int x :: st) ws := by
  obtain ⟨p, l, e, R, s, m, args, below, meth, c, D, cI, cR, A, nL, Q⟩ := G
  obtain ⟨⟨rfl, rfl, rfl, rfl, rfl, rfl⟩, hx, hb, hts, hown, hK, hml, hlocks, hA, hN, hmn⟩ := C
  obtain ⟨hd, rfl⟩ := hd
  intro H locs ls hP hD hS hl
  exact lv_icmp_ne hx hb hd ht (fun h => kt h H locs ls hP hD hS hl) (fun h => kf h H locs ls hP hD hS hl)
theorem r_icmp_lt (C : Ok G l R D cI cR cc nL y) {x y0 : Int32} {off : Int} {tgt : Nat} (hd : Dc cc pc 3 pc2 (.if_icmp .lt off)) (ht : (pc : Int) + off = (tgt : Int)) (kt : x < y0 → Wr G k n tgt lv st ws) (kf : ¬ x < y0 → Wr G k n pc2 lv st ws) : Wr G k n pc lv (.int y0 :: .int x :: st) ws := by
  obtain ⟨p, l, e, R, s, m, args, below, meth, c, D, cI, cR, A, nL, Q⟩ := G
  obtain ⟨⟨rfl, rfl, rfl, rfl, rfl, rfl⟩, hx, hb, hts, hown, hK, hml, hlocks, hA, hN, hmn⟩ := C
  obtain ⟨hd, rfl⟩ := hd
  intro H locs ls hP hD hS hl
  exact lv_icmp_lt hx hb hd ht (fun h => kt h H locs ls hP hD hS hl) (fun h => kf h H locs ls hP hD hS hl)
theorem r_icmp_le (C : Ok G l R D cI cR cc nL y) {x y0 : Int32} {off : Int} {tgt : Nat} (hd : Dc cc pc 3 pc2 (.if_icmp .le off)) (ht : (pc : Int) + off = (tgt : Int)) (kt : x ≤ y0 → Wr G k n tgt lv st ws) (kf : ¬ x ≤ y0 → Wr G k n pc2 lv st ws) : Wr G k n pc lv (.int y0 :: .int x :: st) ws := by
  obtain ⟨p, l, e, R, s, m, args, below, meth, c, D, cI, cR, A, nL, Q⟩ := G
  obtain ⟨⟨rfl, rfl, rfl, rfl, rfl, rfl⟩, hx, hb, hts, hown, hK, hml, hlocks, hA, hN, hmn⟩ := C
  obtain ⟨hd, rfl⟩ := hd
  intro H locs ls hP hD hS hl
  exact lv_icmp_le hx hb hd ht (fun h => kt h H locs ls hP hD hS hl) (fun h => kf h H locs ls hP hD hS hl)
theorem r_icmp_ge (C : Ok G l R D cI cR cc nL y) {x y0 : Int32} {off : Int} {tgt : Nat} (hd : Dc cc pc 3 pc2 (.if_icmp .ge off)) (ht : (pc : Int) + off = (tgt : Int)) (kt : y0 ≤ x → Wr G k n tgt lv st ws) (kf : ¬ y0 ≤ x → Wr G k n pc2 lv st ws) : Wr G k n pc lv (.int y0 :: .int x :: st) ws := by
  obtain ⟨p, l, e, R, s, m, args, below, meth, c, D, cI, cR, A, nL, Q⟩ := G
  obtain ⟨⟨rfl, rfl, rfl, rfl, rfl, rfl⟩, hx, hb, hts, hown, hK, hml, hlocks, hA, hN, hmn⟩ := C
  obtain ⟨hd, rfl⟩ := hd
  intro H locs ls hP hD hS hl
  exact lv_icmp_ge hx hb hd ht (fun h => kt h H locs ls hP hD hS hl) (fun h => kf h H locs ls hP hD hS hl)
theorem r_icmp_gt (C : Ok G l R D cI cR cc nL y) {x y0 : Int32} {off : Int} {tgt : Nat} (hd : Dc cc pc 3 pc2 (.if_icmp .gt off)) (ht : (pc : Int) + off = (tgt : Int)) (kt : y0 < x → Wr G k n tgt lv st ws) (kf : ¬ y0 < x → Wr G k n pc2 lv st ws) : Wr G k n pc lv (.int y0 :: .int x :: st) ws := by
  obtain ⟨p, l, e, R, s, m, args, below, meth, c, D, cI, cR, A, nL, Q⟩ := G
  obtain ⟨⟨rfl, rfl, rfl, rfl, rfl, rfl⟩, hx, hb, hts, hown, hK, hml, hlocks, hA, hN, hmn⟩ := C
  obtain ⟨hd, rfl⟩ := hd
  intro H locs ls hP hD hS hl
  exact lv_icmp_gt hx hb hd ht (fun h => kt h H locs ls hP hD hS hl) (fun h => kf h H locs ls hP hD hS hl)
end Rows
end
section
section Rows2
variable {G : Cxt} {l : Launch} {R : Room} {D : va_G} {cI cR : ClassId} {cc : ByteArray} {nL : Nat} {y : MethodName} {k n pc pc2 : Nat} {lv : List (Nat × Value)} {st : List Value} {ws : va_W}
theorem r_get (C : Ok G l R D cI cR cc nL y) {Cn : String} {T : u_T} {N ci index a : Nat} {ty : Nat → FieldType} {fs : List Value} {v : Value} (K : ClsOk Cn T N ty ci) (hd : Dc cc pc 3 pc2 (.getfield index)) (q0 f : Nat) (he : ws[q0]? = some (a, .inr (ci, fs))) (hf : f < N) (hq : Cond.fieldLink y.cls index Cn (T f).2.1 (T f).2.2.1 ∈ lw_g) (hv : fs[f]? = some v) (kk : Wr G k n pc2 lv (v :: st) ws) : Wr G k n pc lv (.ref a :: st) ws := by
  obtain ⟨p, l, e, R, s, m, args, below, meth, c, D, cI, cR, A, nL, Q⟩ := G
  obtain ⟨⟨rfl, rfl, rfl, rfl, rfl, rfl⟩, hx, hb, hts, hown, hK, hml, hlocks, hA, hN, hmn⟩ := C
  obtain ⟨hd, rfl⟩ := hd
  obtain ⟨K1, K2, K3, K4, K5⟩ := K
  intro H locs ls hP hD hS hl
  exact va_get hx hb hts K1 hown hK hP q0 he K4 f hf (hts _ hq) (fun x h => by rw [K5 f hf] at h; exact h) hv hd (kk H locs ls hP hD hS hl)
theorem r_put (C : Ok G l R D cI cR cc nL y) {Cn : String} {T : u_T} {N ci index a : Nat} {ty : Nat → FieldType} {fs : List Value} {v : Value} {ws2 : va_W} (K : ClsOk Cn T N ty ci) (hd : Dc cc pc 3 pc2 (.putfield index)) (q0 f : Nat) (he : ws[q0]? = some (a, .inr (ci, fs))) (hf : f < N) (hq : Cond.fieldLink y.cls index Cn (T f).2.1 (T f).2.2.1 ∈ lw_g) (hfin : (T f).2.2.2 = false) (hn : narrow (ty f) v = v) (hfit : fits (ty f) v = true) (hfl : f < fs.length) (hw : ws.set q0 (a, .inr (ci, fs.set f v)) = ws2) (kk : Wr G k n pc2 lv st ws2) : Wr G k n pc lv (v :: .ref a :: st) ws := by
  obtain ⟨p, l, e, R, s, m, args, below, meth, c, D, cI, cR, A, nL, Q⟩ := G
  obtain ⟨⟨rfl, rfl, rfl, rfl, rfl, rfl⟩, hx, hb, hts, hown, hK, hml, hlocks, hA, hN, hmn⟩ := C
  obtain ⟨hd, rfl⟩ := hd
  obtain ⟨K1, K2, K3, K4, K5⟩ := K
  subst hw
  intro H locs ls hP hD hS hl
  exact va_put hx hb hts K1 ty K2 K3 hown hK hP hD hS q0 he K4 f hf (hts _ hq) (fun x h => by rw [K5 f hf] at h; exact h) hfin (K2 f hf) hn hfit hfl hd (fun H locs hP hD hS => kk H locs ls hP hD hS hl)
theorem r_putF (C : Ok G l R D cI cR cc nL y) {Cn : String} {T : u_T} {N ci index a : Nat} {ty : Nat → FieldType} {fs : List Value} {v : Value} {ws2 : va_W} (K : ClsOk Cn T N ty ci) (hd : Dc cc pc 3 pc2 (.putfield index)) (q0 f : Nat) (he : ws[q0]? = some (a, .inr (ci, fs))) (hf : f < N) (hq : Cond.fieldLink y.cls index Cn (T f).2.1 (T f).2.2.1 ∈ lw_g) (hfin : (T f).2.2.2 = true) (hy : y.name = "<init>") (hyc : Cn = y.cls) (hn : narrow (ty f) v = v) (hfit : fits (ty f) v = true) (hfl : f < fs.length) (hw : ws.set q0 (a, .inr (ci, fs.set f v)) = ws2) (kk : Wr G k n pc2 lv st ws2) : Wr G k n pc lv (v :: .ref a :: st) ws := by
  obtain ⟨p, l, e, R, s, m, args, below, meth, c, D, cI, cR, A, nL, Q⟩ := G
  obtain ⟨⟨rfl, rfl, rfl, rfl, rfl, rfl⟩, hx, hb, hts, hown, hK, hml, hlocks, hA, hN, hmn⟩ := C
  obtain ⟨hd, rfl⟩ := hd
  obtain ⟨K1, K2, K3, K4, K5⟩ := K
  subst hw
  intro H locs ls hP hD hS hl
  exact va_putF hx hb hts K1 ty K2 K3 hown hK hP hD hS q0 he K4 f hf (hts _ hq) (fun x h => by rw [K5 f hf] at h; exact h) hfin (hmn.trans hy) ((K5 f hf).trans hyc) (K2 f hf) hn hfit hfl hd (fun H locs hP hD hS => kk H locs ls hP hD hS hl)
theorem r_iald (C : Ok G l R D cI cR cc nL y) {a N : Nat} {f : Nat → Int32} {i : Int32} (hd : Dc cc pc 1 pc2 .iaload) (q0 : Nat) (he : ws[q0]? = some (a, .inl (cI, N, .inl f))) (j : Nat) (hi : i = nI j) (hj : j < N) (hN : N < 2147483648) (kk : Wr G k n pc2 lv (.int (f j) :: st) ws) : Wr G k n pc lv (.int i :: .ref a :: st) ws := by
  obtain ⟨p, l, e, R, s, m, args, below, meth, c, D, cI, cR, A, nL, Q⟩ := G
  obtain ⟨⟨rfl, rfl, rfl, rfl, rfl, rfl⟩, hx, hb, hts, hown, hK, hml, hlocks, hA, hN', hmn⟩ := C
  obtain ⟨hd, rfl⟩ := hd
  subst hi
  intro H locs ls hP hD hS hl
  refine va_iald hx hb hK hP q0 0 he rfl (vp_in_nI hj hN) hd ?_
  rw [nI_clamp (Nat.lt_trans hj hN)]
  exact kk H locs ls hP hD hS hl
theorem r_iast (C : Ok G l R D cI cR cc nL y) {a N : Nat} {f : Nat → Int32} {i x : Int32} {ws2 : va_W} (hd : Dc cc pc 1 pc2 .iastore) (q0 : Nat) (he : ws[q0]? = some (a, .inl (cI, N, .inl f))) (j : Nat) (hi : i = nI j) (hj : j < N) (hN : N < 2147483648) (hw : ws.set q0 (a, .inl (cI, N, .inl (upd f j x))) = ws2) (kk : Wr G k n pc2 lv st ws2) : Wr G k n pc lv (.int x :: .int i :: .ref a :: st) ws := by
  obtain ⟨p, l, e, R, s, m, args, below, meth, c, D, cI, cR, A, nL, Q⟩ := G
  obtain ⟨⟨rfl, rfl, rfl, rfl, rfl, rfl⟩, hx, hb, hts, hown, hK, hml, hlocks, hA, hN', hmn⟩ := C
  obtain ⟨hd, rfl⟩ := hd
  subst hi
  subst hw
  intro H locs ls hP hD hS hl
  refine va_iast hx hb hK hP hD hS q0 0 he rfl (vp_in_nI hj hN) hd (fun H locs hP hD hS => ?_)
  rw [nI_clamp (Nat.lt_trans hj hN)] at hP hD
  exact kk H locs ls hP hD hS hl
theorem r_aald (C : Ok G l R D cI cR cc nL y) {a N b : Nat} {f : Nat → Option Nat} {i : Int32} (hd : Dc cc pc 1 pc2 .aaload) (q0 : Nat) (he : ws[q0]? = some (a, .inl (cR, N, .inr (.inr (.inr (.inr f)))))) (j : Nat) (hi : i = nI j) (hj : j < N) (hN : N < 2147483648) (hb0 : f j = some b) (kk : Wr G k n pc2 lv (.ref b :: st) ws) : Wr G k n pc lv (.int i :: .ref a :: st) ws := by
  obtain ⟨p, l, e, R, s, m, args, below, meth, c, D, cI, cR, A, nL, Q⟩ := G
  obtain ⟨⟨rfl, rfl, rfl, rfl, rfl, rfl⟩, hx, hb, hts, hown, hK, hml, hlocks, hA, hN', hmn⟩ := C
  obtain ⟨hd, rfl⟩ := hd
  subst hi
  intro H locs ls hP hD hS hl
  refine va_aldq hx hb hK hP q0 1 he rfl (vp_in_nI hj hN) hd ?_
  rw [nI_clamp (Nat.lt_trans hj hN), hb0]
  exact kk H locs ls hP hD hS hl
theorem r_aast (C : Ok G l R D cI cR cc nL y) {a N v : Nat} {f : Nat → Option Nat} {i : Int32} {vs : List Value} {ws2 : va_W} (hd : Dc cc pc 1 pc2 .aastore) (q0 qk : Nat) (he : ws[q0]? = some (a, .inl (cR, N, .inr (.inr (.inr (.inr f)))))) (hv : ws[qk]? = some (v, .inr (1, vs))) (j : Nat) (hi : i = nI j) (hj : j < N) (hN : N < 2147483648) (hw : ws.set q0 (a, .inl (cR, N, .inr (.inr (.inr (.inr (va_up f j (some v))))))) = ws2) (kk : Wr G k n pc2 lv st ws2) : Wr G k n pc lv (.ref v :: .int i :: .ref a :: st) ws := by
  obtain ⟨p, l, e, R, s, m, args, below, meth, c, D, cI, cR, A, nL, Q⟩ := G
  obtain ⟨⟨rfl, rfl, rfl, rfl, rfl, rfl⟩, hx, hb, hts, hown, hK, hml, hlocks, hA, hN', hmn⟩ := C
  obtain ⟨hd, rfl⟩ := hd
  subst hi
  subst hw
  intro H locs ls hP hD hS hl
  refine va_astq hx hb hK hP hD hS q0 1 qk 1 (r := (RX1, TX1, 9)) he rfl hv rfl (vp_in_nI hj hN) hd (fun H locs hP hD hS => ?_)
  rw [nI_clamp (Nat.lt_trans hj hN)] at hP hD
  exact kk H locs ls hP hD hS hl
/-- a new array of ints: its class is the one that is known -/
theorem r_newi (C : Ok G l R D cI cR cc nL y) {v : Int32} (hd : Dc cc pc 2 pc2 (.newarray .int)) (N : Nat) (hv : v = nI N) (hN : N < 100000) (hc : k + 1 ≤ R.cells) (hs : n + N ≤ R.slots) (kk : ∀ q : Nat, Wr G (k + 1) (n + N) pc2 lv (.ref q :: st) (ws ++ [(q, .inl (cI, N, .inl (fun _ => 0)))])) : Wr G k n pc lv (.int v :: st) ws := by
  obtain ⟨p, l, e, R, s, m, args, below, meth, c, D, cI, cR, A, nL, Q⟩ := G
  obtain ⟨⟨rfl, rfl, rfl, rfl, rfl, rfl⟩, hx, hb, hts, hown, hK, hml, hlocks, hA, hN', hmn⟩ := C
  obtain ⟨hd, rfl⟩ := hd
  subst hv
  intro H locs ls hP hD hS hl
  refine va_newa (atype := .int) (ty := .int) (a0 := (N, .inl (fun _ => 0))) hx hb (hts _ q_AC) rfl hK hP hD hS hA (fun cA => rfl) (nI_pos (by omega)) (nI_clamp (by omega)) (by show N * 4 ≤ _; omega) hc hs hd (fun q cA H1 hK1 hP1 hD1 hS1 => ?_)
  have e1 := (hK.2 0 _ rfl).2
  have e2 := (hK1.2 2 _ rfl).2
  have e3 : cA = cI := Option.some.inj (e2.symm.trans e1)
  subst e3
  exact kk q H1 locs ls hP1 hD1 hS1 hl
theorem r_newq (C : Ok G l R D cI cR cc nL y) {v : Int32} {index : Nat} (hd : Dc cc pc 3 pc2 (.anewarray index)) (hq : Cond.classLink y.cls index "EtchedPlate$Plate" ∈ lw_g) (N : Nat) (hv : v = nI N) (hN : N < 100000) (hc : k + 1 ≤ R.cells) (hs : n + N ≤ R.slots) (kk : ∀ q : Nat, Wr G (k + 1) (n + N) pc2 lv (.ref q :: st) (ws ++ [(q, .inl (cR, N, .inr (.inr (.inr (.inr (fun _ => none))))))])) : Wr G k n pc lv (.int v :: st) ws := by
  obtain ⟨p, l, e, R, s, m, args, below, meth, c, D, cI, cR, A, nL, Q⟩ := G
  obtain ⟨⟨rfl, rfl, rfl, rfl, rfl, rfl⟩, hx, hb, hts, hown, hK, hml, hlocks, hA, hN', hmn⟩ := C
  obtain ⟨hd, rfl⟩ := hd
  subst hv
  intro H locs ls hP hD hS hl
  refine va_newq hx hb hown (hts _ hq) hN'.2.2.2 hK hP hD hS hA (nI_pos (by omega)) (nI_clamp (by omega)) (by omega) hc hs hd (fun q cA H1 hK1 hP1 hD1 hS1 => ?_)
  obtain ⟨kA, comp, a1, a2, a3, e1⟩ := (hK.2 1 _ rfl).2
  obtain ⟨kA2, comp2, b1, b2, b3, e2⟩ := (hK1.2 2 _ rfl).2
  have e3 : cA = cR := Option.some.inj (e2.symm.trans e1)
  subst e3
  exact kk q H1 locs ls hP1 hD1 hS1 hl
theorem r_new (C : Ok G l R D cI cR cc nL y) {Cn : String} {T : u_T} {N ci index : Nat} {ty : Nat → FieldType} {fs : List Value} (K : ClsOk Cn T N ty ci) (hd : Dc cc pc 3 pc2 (.new index)) (hq1 : Cond.classLink y.cls index Cn ∈ lw_g) (hq2 : Cond.instantiable Cn N ∈ lw_g) (hq3 : Cond.initialized Cn ∈ lw_g) (hfs : ∀ j, j < N → defaultValue (ty j) = vp_V fs j) (hc : k + 1 ≤ R.cells) (hs : n + N ≤ R.slots) (kk : ∀ q : Nat, Wr G (k + 1) (n + N) pc2 lv (.ref q :: st) (ws ++ [(q, .inr (ci, fs))])) : Wr G k n pc lv st ws := by
  obtain ⟨p, l, e, R, s, m, args, below, meth, c, D, cI, cR, A, nL, Q⟩ := G
  obtain ⟨⟨rfl, rfl, rfl, rfl, rfl, rfl⟩, hx, hb, hts, hown, hK, hml, hlocks, hA, hN', hmn⟩ := C
  obtain ⟨hd, rfl⟩ := hd
  obtain ⟨K1, K2, K3, K4, K5⟩ := K
  intro H locs ls hP hD hS hl
  exact va_new hx hb hts K1 ty K2 hown (hts _ hq1) (hts _ hq2) (hts _ hq3) hK hP hD hS hA K4 hfs hc hs hd (fun q H1 hP hD hS => kk q H1 locs ls hP hD hS hl)
theorem r_objInit (C : Ok G l R D cI cR cc nL y) {index a : Nat} (hd : Dc cc pc 3 pc2 (.invokespecial index)) (hq1 : Cond.methodLink y.cls index objectInit ∈ lw_g) (hf : 1 ≤ R.frames) (hlo : (st.map fun v => v.category).sum + 12 ≤ R.locals) (kk : Wr G k n pc2 lv st ws) : Wr G k n pc lv (.ref a :: st) ws := by
  obtain ⟨p, l, e, R, s, m, args, below, meth, c, D, cI, cR, A, nL, Q⟩ := G
  obtain ⟨⟨rfl, rfl, rfl, rfl, rfl, rfl⟩, hx, hb, hts, hown, hK, hml, hlocks, hA, hN', hmn⟩ := C
  obtain ⟨hd, rfl⟩ := hd
  intro H locs ls hP hD hS hl
  refine W.objInit (g := F0 m pc ls (.ref a :: st)) hx hb hown (hts _ hq1) (hts _ q_OI) (hts _ q_OC) rfl (by rw [hml]; exact hl.1) rfl hd hf (by show 2 * 0 + _ + 12 ≤ _; omega) ?_
  exact kk H locs ls hP hD hS hl
theorem r_mmin (C : Ok G l R D cI cR cc nL y) {index : Nat} {x z : Int32} (hd : Dc cc pc 3 pc2 (.invokestatic index)) (hq1 : Cond.methodLink y.cls index Lib.Math.min.name ∈ lw_g) (hf : 1 ≤ R.frames) (hlo : (st.map fun v => v.category).sum + 13 ≤ R.locals) (hc : k ≤ R.cells) (hs : n ≤ R.slots) (kk : Wr G k n pc2 lv (.int (if z < x then z else x) :: st) ws) : Wr G k n pc lv (.int z :: .int x :: st) ws := by
  obtain ⟨p, l, e, R, s, m, args, below, meth, c, D, cI, cR, A, nL, Q⟩ := G
  obtain ⟨⟨rfl, rfl, rfl, rfl, rfl, rfl⟩, hx, hb, hts, hown, hK, hml, hlocks, hA, hN', hmn⟩ := C
  obtain ⟨hd, rfl⟩ := hd
  intro H locs ls hP hD hS hl
  exact va_mmin hx hb (by rw [hml]; exact hl.1.symm) hown (hts _ hq1) (hts _ q_MinS) (hts _ q_MI) (hts _ q_MinC) hf hlo hc hs hd (kk H locs ls hP hD hS hl)
theorem r_mmax (C : Ok G l R D cI cR cc nL y) {index : Nat} {x z : Int32} (hd : Dc cc pc 3 pc2 (.invokestatic index)) (hq1 : Cond.methodLink y.cls index Lib.Math.max.name ∈ lw_g) (hf : 1 ≤ R.frames) (hlo : (st.map fun v => v.category).sum + 13 ≤ R.locals) (hc : k ≤ R.cells) (hs : n ≤ R.slots) (kk : Wr G k n pc2 lv (.int (if x < z then z else x) :: st) ws) : Wr G k n pc lv (.int z :: .int x :: st) ws := by
  obtain ⟨p, l, e, R, s, m, args, below, meth, c, D, cI, cR, A, nL, Q⟩ := G
  obtain ⟨⟨rfl, rfl, rfl, rfl, rfl, rfl⟩, hx, hb, hts, hown, hK, hml, hlocks, hA, hN', hmn⟩ := C
  obtain ⟨hd, rfl⟩ := hd
  intro H locs ls hP hD hS hl
  exact va_mmax hx hb (by rw [hml]; exact hl.1.symm) hown (hts _ hq1) (hts _ q_MaxS) (hts _ q_MI) (hts _ q_MaxC) hf hlo hc hs hd (kk H locs ls hP hD hS hl)
theorem r_mabs (C : Ok G l R D cI cR cc nL y) {index : Nat} {x : Int32} (hd : Dc cc pc 3 pc2 (.invokestatic index)) (hq1 : Cond.methodLink y.cls index Lib.Math.abs.name ∈ lw_g) (hf : 1 ≤ R.frames) (hlo : (st.map fun v => v.category).sum + 13 ≤ R.locals) (hc : k ≤ R.cells) (hs : n ≤ R.slots) (kk : Wr G k n pc2 lv (.int (if 0 ≤ x then x else 0 - x) :: st) ws) : Wr G k n pc lv (.int x :: st) ws := by
  obtain ⟨p, l, e, R, s, m, args, below, meth, c, D, cI, cR, A, nL, Q⟩ := G
  obtain ⟨⟨rfl, rfl, rfl, rfl, rfl, rfl⟩, hx, hb, hts, hown, hK, hml, hlocks, hA, hN', hmn⟩ := C
  obtain ⟨hd, rfl⟩ := hd
  intro H locs ls hP hD hS hl
  exact va_mabs hx hb (by rw [hml]; exact hl.1.symm) hown (hts _ hq1) (hts _ q_AbsS) (hts _ q_MI) (hts _ q_AbsC) hf hlo hc hs hd (kk H locs ls hP hD hS hl)
/-- a copy of a whole row of ints -/
theorem r_copy (C : Ok G l R D cI cR cc nL y) {index a b N : Nat} {f g : Nat → Int32} {v : Int32} {ws2 : va_W} (hd : Dc cc pc 3 pc2 (.invokestatic index)) (hq1 : Cond.methodLink y.cls index arraycopyName ∈ lw_g) (q0 q1 : Nat) (he0 : ws[q0]? = some (a, .inl (cI, N, .inl f))) (he1 : ws[q1]? = some (b, .inl (cI, N, .inl g))) (hv : v = nI N) (hN : N < 100000) (hf : 1 ≤ R.frames) (hlo : (st.map fun v => v.category).sum + (nativeFrameWords "java/lang/System" "arraycopy" 5 + 11) ≤ R.locals) (hw : ws.set q1 (b, .inl (cI, N, .inl (va_cpy f g 0 0 N))) = ws2) (kk : Wr G k n pc2 lv st ws2) : Wr G k n pc lv (.int v :: .int 0 :: .ref b :: .int 0 :: .ref a :: st) ws := by
  obtain ⟨p, l, e, R, s, m, args, below, meth, c, D, cI, cR, A, nL, Q⟩ := G
  obtain ⟨⟨rfl, rfl, rfl, rfl, rfl, rfl⟩, hx, hb, hts, hown, hK, hml, hlocks, hA, hN', hmn⟩ := C
  obtain ⟨hd, rfl⟩ := hd
  subst hw
  subst hv
  intro H locs ls hP hD hS hl
  have hz : (nI N).toNatClampNeg = N := nI_clamp (by omega)
  have h0 : (0 : Int32).toNatClampNeg = 0 := rfl
  refine va_copyi hx hb (by rw [hml]; exact hl.1.symm) hown (hts _ hq1) (hts _ q_CpN) (hts _ q_CpS) (hts _ q_SI) hK hP hD hS q0 q1 0 0 he0 he1 rfl rfl rfl (by decide) (by decide) (nI_pos (by omega)) (by rw [hz, h0]; omega) (by rw [hz, h0]; omega) (fun i hi => rfl) hf hlo hd (fun H locs hP hD hS => ?_)
  rw [hz, h0] at hP hD
  exact kk H locs ls hP hD hS hl
/-! ends -/
theorem r_iret (C : Ok G l R D cI cR cc nL y) {Post : Option Value → va_W → Prop} {mc ms : Nat} {v : Int32} (E : En G (some .int) Post mc ms) (hd : Dc cc pc 1 pc2 .ireturn) (hk : k ≤ mc) (hn : n ≤ ms) (hp : Post (some (.int v)) ws) : Wr G k n pc lv [.int v] ws := by
  obtain ⟨p, l, e, R, s, m, args, below, meth, c, D, cI, cR, A, nL, Q⟩ := G
  obtain ⟨⟨rfl, rfl, rfl, rfl, rfl, rfl⟩, hx, hb, hts, hown, hK, hml, hlocks, hA, hN', hmn⟩ := C
  obtain ⟨Qc, free, hQ, hr, hfr, hq⟩ := E
  obtain ⟨hd, rfl⟩ := hd
  intro H locs ls hP hD hS hl
  refine W.widen hk hn ?_
  rw [hQ]
  exact W.iret hx hb hr (fun t ht hW => hq _ ws H locs t hp hP hD hS ht hW) (fun q h => hfr _ (hS.2.2 q h)) hd hlocks
theorem r_zret (C : Ok G l R D cI cR cc nL y) {Post : Option Value → va_W → Prop} {mc ms : Nat} {v : Int32} (E : En G (some .boolean) Post mc ms) (hd : Dc cc pc 1 pc2 .ireturn) (hk : k ≤ mc) (hn : n ≤ ms) (hz : narrow .boolean (.int v) = .int v) (hp : Post (some (.int v)) ws) : Wr G k n pc lv [.int v] ws := by
  obtain ⟨p, l, e, R, s, m, args, below, meth, c, D, cI, cR, A, nL, Q⟩ := G
  obtain ⟨⟨rfl, rfl, rfl, rfl, rfl, rfl⟩, hx, hb, hts, hown, hK, hml, hlocks, hA, hN', hmn⟩ := C
  obtain ⟨Qc, free, hQ, hr, hfr, hq⟩ := E
  obtain ⟨hd, rfl⟩ := hd
  intro H locs ls hP hD hS hl
  refine W.widen hk hn ?_
  rw [hQ]
  exact W.zret hx hb hr hz (fun t ht hW => hq _ ws H locs t hp hP hD hS ht hW) (fun q h => hfr _ (hS.2.2 q h)) hd hlocks
theorem r_lret (C : Ok G l R D cI cR cc nL y) {Post : Option Value → va_W → Prop} {mc ms : Nat} {v : Int64} (E : En G (some .long) Post mc ms) (hd : Dc cc pc 1 pc2 .lreturn) (hk : k ≤ mc) (hn : n ≤ ms) (hp : Post (some (.long v)) ws) : Wr G k n pc lv [.long v] ws := by
  obtain ⟨p, l, e, R, s, m, args, below, meth, c, D, cI, cR, A, nL, Q⟩ := G
  obtain ⟨⟨rfl, rfl, rfl, rfl, rfl, rfl⟩, hx, hb, hts, hown, hK, hml, hlocks, hA, hN', hmn⟩ := C
  obtain ⟨Qc, free, hQ, hr, hfr, hq⟩ := E
  obtain ⟨hd, rfl⟩ := hd
  intro H locs ls hP hD hS hl
  refine W.widen hk hn ?_
  rw [hQ]
  exact W.lret hx hb hr (fun t ht hW => hq _ ws H locs t hp hP hD hS ht hW) (fun q h => hfr _ (hS.2.2 q h)) hd hlocks
theorem r_vret (C : Ok G l R D cI cR cc nL y) {Post : Option Value → va_W → Prop} {mc ms : Nat} (E : En G none Post mc ms) (hd : Dc cc pc 1 pc2 .return_) (hk : k ≤ mc) (hn : n ≤ ms) (hp : Post none ws) : Wr G k n pc lv [] ws := by
  obtain ⟨p, l, e, R, s, m, args, below, meth, c, D, cI, cR, A, nL, Q⟩ := G
  obtain ⟨⟨rfl, rfl, rfl, rfl, rfl, rfl⟩, hx, hb, hts, hown, hK, hml, hlocks, hA, hN', hmn⟩ := C
  obtain ⟨Qc, free, hQ, hr, hfr, hq⟩ := E
  obtain ⟨hd, rfl⟩ := hd
  intro H locs ls hP hD hS hl
  refine W.widen hk hn ?_
  rw [hQ]
  exact W.vret hx hb hr (fun t ht hW => hq _ ws H locs t hp hP hD hS ht hW) (fun q h => hfr _ (hS.2.2 q h)) hd hlocks
/-! contracts -/
def rQ (D : va_G) (Post : Option Value → va_W → Prop) (A : Nat → Prop) : Array Value → State → Outcome → State → Prop := fun _ st oc t => ∃ (v : Option Value) (w : va_W), oc = .returned v ∧ Post v w ∧ va_P D vwCl w t.heap ∧ va_D A w ∧ va_F A st t
def Ctr (l : Launch) (D : va_G) (cI cR : ClassId) (y : MethodName) (cc : ByteArray) (maxL : Nat) (ret : Option FieldType) (rm : Room) (av : List Value) (w : va_W) (Post : Option Value → va_W → Prop) : Prop := ∀ sz : Nat, Met l y (.code y cc maxL ret :: lw_g) rm (va_Pc av (fun U => U.heap.size = sz ∧ va_P D vwCl w U.heap ∧ va_K D vwCl (tysE cI cR) U ∧ va_D (fun _ => True) w ∧ nestOk U)) (rQ D Post (va_A w sz)) rm.cells rm.slots (va_A w sz)
theorem ctr_of {maxL : Nat} {ret : Option FieldType} {av : List Value} {lv0 : List (Nat × Value)} {w : va_W} {Post : Option Value → va_W → Prop} (hy : plainName y.cls = true) (hlen : (lg_sl av).length ≤ maxL) (hlv : lv_args 0 av = lv0) (body : ∀ G : Cxt, Ok G l R D cI cR cc maxL y → En G ret Post R.cells R.slots → Wr G 0 0 0 lv0 [] w) : Ctr l D cI cR y cc maxL ret R av w Post := by
  intro sz
  refine Met.ofW (cc := cc) (maxL := maxL) (ret := ret) hy rfl ?_
  intro p e s m args below meth c s₁ B hml hv
  obtain ⟨rfl, hsz, hP, hK, hD0, hN⟩ := hv
  subst hsz
  have hts := atoms_spec (ws := .code y cc maxL ret :: lw_g) B.pre
  have hl := lv_entry av (n := maxL) hlen
  rw [hlv] at hl
  rw [lg_entry_eq]
  have hA : ∀ q : Nat, s.heap.size ≤ q → va_A w s.heap.size q := fun q h => Or.inr h
  exact body (p, l, e, R, s, m, av.toArray, below, meth, c, D, cI, cR, va_A w s.heap.size, maxL, MQ below (rQ D Post (va_A w s.heap.size)) av.toArray s R.cells R.slots (va_A w s.heap.size)) ⟨⟨rfl, rfl, rfl, rfl, rfl, rfl⟩, B.exec, B.bytes, fun w h => hts w (List.mem_cons_of_mem _ h), findClass_of_methodNamed B.named, hK, hml, B.notSynchronized, hA, hN, (name_of_methodNamed B.named B.method).1⟩
    ⟨_, _, rfl, B.returns, fun q h => h, fun v ws H locs t hp hP hD hS ht hW => ⟨v, ws, rfl, hp, by rw [ht]; exact hP, hD, hS.F ht⟩⟩ s.heap [] _ hP (hD0.self (sz := s.heap.size)) va_S.rf hl
/-- the words of a method that is called -/
def CalOk (y : MethodName) (cc : ByteArray) (maxL : Nat) (ret : Option FieldType) (np : Nat) : Prop := Cond.initialized y.cls ∈ lw_g ∧ Cond.code y cc maxL ret ∈ lw_g ∧ (y.cls ≠ "java/lang/invoke/MethodHandle" ∧ y.cls ≠ "java/lang/invoke/VarHandle" ∧ (parseMethodDescriptor y.desc).map (fun d => d.parameters.length) = some np)
theorem goodG {ws : List Cond} (h : ∀ w ∈ ws, w ∈ lw_g) : GoodIn lw_g ws := fun w hw => ⟨h w hw, good_of_word (List.mem_filter.mp (h w hw)).2⟩
/-- behind a call of any kind -/
theorem r_back {p : Program} {l : Launch} {e : Env} {R : Room} {s : State} {m : MethodId} {args : Array Value} {below : List Frame} {meth : Method} {c : Code} {D : va_G} {cI cR : ClassId} {A : Nat → Prop} {nL : Nat} {Q : State → Prop} {mc ms : Nat} {rest st0 : List Value} {a : Array Value} {H : Heap} {locs : List Loc} {ls : Array Slot} {wc wr : va_W} {Post : Option Value → va_W → Prop}
    (hr : va_Run p l e R s m args below meth c H locs k n mc ms (F0 m pc ls st0) rest (rQ D Post (va_A wc H.size) a) (va_A wc H.size)) (hP : va_P D vwCl ws H) (hD : va_D A ws) (hS : va_S A s.heap H locs) (hA : ∀ q, s.heap.size ≤ q → A q) (hl : lv_has ls nL lv) (isC isR : List Nat) (hC : isC.map (fun i => ws[i]?) = wc.map some) (hR : isR.map (fun i => ws[i]?) = wr.map some) (hnd : va_nd isR = true) (hdis : ∀ i ∈ isR, i ∉ isC)
    (kk : ∀ (v : Option Value) (w : va_W), Post v w → Wr (p, l, e, R, s, m, args, below, meth, c, D, cI, cR, A, nL, Q) (k + mc) (n + ms) (pc + 3) lv (v.toList ++ rest) (wr ++ w)) : W p l e R s m args below meth c H locs k n Q (F0 m pc ls st0) := by
  have hF := va_free (wc := wc) hD hS hA isC hC
  intro T hT X
  obtain ⟨v, st₀, t, T', L, h0, X', hL, e1, e2, ⟨v', w, hv, hp, hPw, hDw, hz, hk⟩, st⟩ := hr T hT X
  cases hv
  rw [h0] at hz hk
  rw [← e1] at hPw hz
  obtain ⟨hP2, hD2⟩ := va_join hP hD isC isR hC hR hnd hdis (H1 := T'.heap) (fun q h1 h2 => by rw [e1]; exact hk q h1 h2) hF hPw hDw
  obtain ⟨t2, a1, b1⟩ := kk v w hp T'.heap (locs ++ L) ls hP2 hD2
    ⟨Nat.le_trans hS.1 hz, fun q h1 h2 => by rw [e1, hk q (Nat.lt_of_lt_of_le h1 hS.1) (fun z => h2 (hF q z))]; exact hS.2.1 q h1 h2, fun q hq => by
      rcases List.mem_append.mp hq with h | h
      · exact hS.2.2 q h
      · exact hF _ (hL q h)⟩ hl T' rfl X'
  exact ⟨t2, st t2 a1, b1⟩
theorem r_callV (C : Ok G l R D cI cR cc nL y) {y2 : MethodName} {cc2 : ByteArray} {maxL : Nat} {ret : Option FieldType} {rm : Room} {As rest : List Value} {b index ci np : Nat} {T : u_T} {N : Nat} {fs : List Value} {wc wr : va_W} {Post : Option Value → va_W → Prop} (hM : Ctr l D cI cR y2 cc2 maxL ret rm (.ref b :: As) wc Post) (ck : CalOk y2 cc2 maxL ret np) (hn1 : As.length = np) (hd : Dc cc pc 3 pc2 (.invokevirtual index)) (hq1 : Cond.methodLink y.cls index y2 ∈ lw_g) (hq2 : Cond.instanceMethod y2 ∈ lw_g) (hq3 : Cond.selects y2.cls y2 y2 ∈ lw_g) (hR : rm.frames + 1 ≤ R.frames ∧ 8 + (maxL + 11) + rm.locals ≤ R.locals) (isC isR : List Nat) (hC : isC.map (fun i => ws[i]?) = wc.map some) (hRr : isR.map (fun i => ws[i]?) = wr.map some) (hnC : va_nd isC = true) (hnd : va_nd isR = true) (hdis : ∀ i ∈ isR, i ∉ isC) (q0 : Nat) (hrv : wc[q0]? = some (b, .inr (ci, fs))) (hcl : vwCl[ci]? = some (y2.cls, T, N)) (hst : st = As.reverse ++ .ref b :: rest) (hrm : (rest.map fun v => v.category).sum ≤ 8) (hroom : k + rm.cells ≤ R.cells ∧ n + rm.slots ≤ R.slots)
    (kk : ∀ (v : Option Value) (w : va_W), Post v w → Wr G (k + rm.cells) (n + rm.slots) pc2 lv (v.toList ++ rest) (wr ++ w)) : Wr G k n pc lv st ws := by
  obtain ⟨p, l, e, R, s, m, args, below, meth, c, D, cI, cR, A, nL, Q⟩ := G
  obtain ⟨⟨rfl, rfl, rfl, rfl, rfl, rfl⟩, hx, hb, hts, hown, hK, hml, hlocks, hA, hN', hmn⟩ := C
  obtain ⟨hd, rfl⟩ := hd
  obtain ⟨c1, c2, c3⟩ := ck
  subst hn1
  intro H locs ls hP hD hS hl
  have hPc : va_P D vwCl wc H := by
    intro j q hq
    have h1 : (isC.map (fun i => ws[i]?))[j]? = some (some q) := by rw [hC, List.getElem?_map, hq]; rfl
    rw [List.getElem?_map] at h1
    cases hi : isC[j]? with
    | none => rw [hi] at h1; cases h1
    | some i => rw [hi] at h1; exact hP i q (Option.some.inj h1)
  have hDc := hD.sub isC hnC hC
  refine r_back (va_runV (As := As) (rest := rest) ⟨hx, hb, hml, hown, hts⟩ (hM H.size) (cwV _ hts (goodG (fun w hw => ?_)) rfl rfl rfl ⟨rfl, c3⟩ hR) ⟨fun a U g mk q => ⟨q.1, q.2.1, q.2.2.1, va_K.moved (u := U) (U := U.calling g mk a) (Vm.Alike.refl U.vm) q.2.2.2.1, q.2.2.2.2.1, q.2.2.2.2.2.calling⟩, va_recv hK hPc hcl hrv, fun U hU hW => ⟨rfl, by rw [hU], by rw [hU]; exact hPc, va_K.moved hW.alike hK, hDc.weaken (fun _ _ _ _ => trivial), hN'.moved hW⟩⟩ rfl rfl hl.1 hst (lv_room hrm) hd hroom) hP hD hS hA hl isC isR hC hRr hnd hdis kk
  rcases List.mem_append.mp hw with h | h
  · simp only [List.mem_cons, List.not_mem_nil, or_false] at h
    rcases h with rfl | rfl | rfl | rfl
    · exact hq1
    · exact hq2
    · exact hq3
    · exact c1
  · rcases List.mem_cons.mp h with rfl | h
    · exact c2
    · exact h
theorem r_callS (C : Ok G l R D cI cR cc nL y) {y2 : MethodName} {cc2 : ByteArray} {maxL : Nat} {ret : Option FieldType} {rm : Room} {As rest : List Value} {index np : Nat} {wc wr : va_W} {Post : Option Value → va_W → Prop} (hM : Ctr l D cI cR y2 cc2 maxL ret rm (As) wc Post) (ck : CalOk y2 cc2 maxL ret np) (hn1 : As.length = np) (hd : Dc cc pc 3 pc2 (.invokestatic index)) (hq1 : Cond.methodLink y.cls index y2 ∈ lw_g) (hq2 : Cond.static y2 ∈ lw_g) (hR : rm.frames + 1 ≤ R.frames ∧ 8 + (maxL + 11) + rm.locals ≤ R.locals) (isC isR : List Nat) (hC : isC.map (fun i => ws[i]?) = wc.map some) (hRr : isR.map (fun i => ws[i]?) = wr.map some) (hnC : va_nd isC = true) (hnd : va_nd isR = true) (hdis : ∀ i ∈ isR, i ∉ isC) (hst : st = As.reverse ++ rest) (hrm : (rest.map fun v => v.category).sum ≤ 8) (hroom : k + rm.cells ≤ R.cells ∧ n + rm.slots ≤ R.slots)
    (kk : ∀ (v : Option Value) (w : va_W), Post v w → Wr G (k + rm.cells) (n + rm.slots) pc2 lv (v.toList ++ rest) (wr ++ w)) : Wr G k n pc lv st ws := by
  obtain ⟨p, l, e, R, s, m, args, below, meth, c, D, cI, cR, A, nL, Q⟩ := G
  obtain ⟨⟨rfl, rfl, rfl, rfl, rfl, rfl⟩, hx, hb, hts, hown, hK, hml, hlocks, hA, hN', hmn⟩ := C
  obtain ⟨hd, rfl⟩ := hd
  obtain ⟨c1, c2, c3⟩ := ck
  subst hn1
  intro H locs ls hP hD hS hl
  have hPc : va_P D vwCl wc H := by
    intro j q hq
    have h1 : (isC.map (fun i => ws[i]?))[j]? = some (some q) := by rw [hC, List.getElem?_map, hq]; rfl
    rw [List.getElem?_map] at h1
    cases hi : isC[j]? with
    | none => rw [hi] at h1; cases h1
    | some i => rw [hi] at h1; exact hP i q (Option.some.inj h1)
  have hDc := hD.sub isC hnC hC
  refine r_back (va_runS (As := As) (rest := rest) ⟨hx, hb, hml, hown, hts⟩ (hM H.size) (va_cwS _ hts (goodG (fun w hw => ?_)) rfl rfl rfl c3 hR) ⟨fun a U g mk q => ⟨q.1, q.2.1, q.2.2.1, va_K.moved (u := U) (U := U.calling g mk a) (Vm.Alike.refl U.vm) q.2.2.2.1, q.2.2.2.2.1, q.2.2.2.2.2.calling⟩, fun U hU hW => ⟨rfl, by rw [hU], by rw [hU]; exact hPc, va_K.moved hW.alike hK, hDc.weaken (fun _ _ _ _ => trivial), hN'.moved hW⟩⟩ rfl rfl hl.1 hst (lv_room hrm) hd hroom) hP hD hS hA hl isC isR hC hRr hnd hdis kk
  rcases List.mem_append.mp hw with h | h
  · simp only [List.mem_cons, List.not_mem_nil, or_false] at h
    rcases h with rfl | rfl | rfl
    · exact hq1
    · exact hq2
    · exact c1
  · rcases List.mem_cons.mp h with rfl | h
    · exact c2
    · exact h
theorem r_callSN (C : Ok G l R D cI cR cc nL y) {y2 : MethodName} {cc2 : ByteArray} {maxL : Nat} {ret : Option FieldType} {rm : Room} {As rest : List Value} {index np : Nat} {wc wr : va_W} {Post : Option Value → va_W → Prop} (hM : Ctr l D cI cR y2 cc2 maxL ret rm (As) wc Post) (ck : CalOk y2 cc2 maxL ret np) (hn1 : As.length = np) (hd : Dc cc pc 3 pc2 (.invokestatic index)) (host : String) (hq1 : ∀ U : State, nestOk U → va_Nw (.methodLinkNest y.cls index y2 host) U) (hq2 : Cond.static y2 ∈ lw_g) (hR : rm.frames + 1 ≤ R.frames ∧ 8 + (maxL + 11) + rm.locals ≤ R.locals) (isC isR : List Nat) (hC : isC.map (fun i => ws[i]?) = wc.map some) (hRr : isR.map (fun i => ws[i]?) = wr.map some) (hnC : va_nd isC = true) (hnd : va_nd isR = true) (hdis : ∀ i ∈ isR, i ∉ isC) (hst : st = As.reverse ++ rest) (hrm : (rest.map fun v => v.category).sum ≤ 8) (hroom : k + rm.cells ≤ R.cells ∧ n + rm.slots ≤ R.slots)
    (kk : ∀ (v : Option Value) (w : va_W), Post v w → Wr G (k + rm.cells) (n + rm.slots) pc2 lv (v.toList ++ rest) (wr ++ w)) : Wr G k n pc lv st ws := by
  obtain ⟨p, l, e, R, s, m, args, below, meth, c, D, cI, cR, A, nL, Q⟩ := G
  obtain ⟨⟨rfl, rfl, rfl, rfl, rfl, rfl⟩, hx, hb, hts, hown, hK, hml, hlocks, hA, hN', hmn⟩ := C
  obtain ⟨hd, rfl⟩ := hd
  obtain ⟨c1, c2, c3⟩ := ck
  subst hn1
  intro H locs ls hP hD hS hl
  have hPc : va_P D vwCl wc H := by
    intro j q hq
    have h1 : (isC.map (fun i => ws[i]?))[j]? = some (some q) := by rw [hC, List.getElem?_map, hq]; rfl
    rw [List.getElem?_map] at h1
    cases hi : isC[j]? with
    | none => rw [hi] at h1; cases h1
    | some i => rw [hi] at h1; exact hP i q (Option.some.inj h1)
  have hDc := hD.sub isC hnC hC
  refine r_back (va_runSN (As := As) (rest := rest) ⟨hx, hb, hml, hown, hts⟩ (hM H.size) ⟨va_cnB _ hts (goodG (fun w hw => ?_)) rfl rfl rfl (hq1 s hN') (hts _ c1) c3 hR, hts _ hq2, trivial⟩ ⟨fun a U g mk q => ⟨q.1, q.2.1, q.2.2.1, va_K.moved (u := U) (U := U.calling g mk a) (Vm.Alike.refl U.vm) q.2.2.2.1, q.2.2.2.2.1, q.2.2.2.2.2.calling⟩, fun U hU hW => ⟨rfl, by rw [hU], by rw [hU]; exact hPc, va_K.moved hW.alike hK, hDc.weaken (fun _ _ _ _ => trivial), hN'.moved hW⟩⟩ rfl rfl hl.1 hst (lv_room hrm) hd hroom) hP hD hS hA hl isC isR hC hRr hnd hdis kk
  rcases List.mem_cons.mp hw with rfl | h
  · exact c2
  · exact h
theorem r_callI (C : Ok G l R D cI cR cc nL y) {y2 : MethodName} {cc2 : ByteArray} {maxL : Nat} {rm : Room} {As rest : List Value} {b index np : Nat} {wc wr : va_W} {Post : Option Value → va_W → Prop} (hM : Ctr l D cI cR y2 cc2 maxL none rm (.ref b :: As) wc Post) (ck : CalOk y2 cc2 maxL none np) (hn1 : As.length = np) (hd : Dc cc pc 3 pc2 (.invokespecial index)) (hq1 : Cond.methodLink y.cls index y2 ∈ lw_g) (hq2 : Cond.instanceMethod y2 ∈ lw_g) (hq3 : y2.name = "<init>") (hR : rm.frames + 1 ≤ R.frames ∧ 8 + (maxL + 11) + rm.locals ≤ R.locals) (isC isR : List Nat) (hC : isC.map (fun i => ws[i]?) = wc.map some) (hRr : isR.map (fun i => ws[i]?) = wr.map some) (hnC : va_nd isC = true) (hnd : va_nd isR = true) (hdis : ∀ i ∈ isR, i ∉ isC) (hst : st = As.reverse ++ .ref b :: rest) (hrm : (rest.map fun v => v.category).sum ≤ 8) (hroom : k + rm.cells ≤ R.cells ∧ n + rm.slots ≤ R.slots)
    (kk : ∀ (v : Option Value) (w : va_W), Post v w → Wr G (k + rm.cells) (n + rm.slots) pc2 lv (v.toList ++ rest) (wr ++ w)) : Wr G k n pc lv st ws := by
  obtain ⟨p, l, e, R, s, m, args, below, meth, c, D, cI, cR, A, nL, Q⟩ := G
  obtain ⟨⟨rfl, rfl, rfl, rfl, rfl, rfl⟩, hx, hb, hts, hown, hK, hml, hlocks, hA, hN', hmn⟩ := C
  obtain ⟨hd, rfl⟩ := hd
  obtain ⟨c1, c2, c3⟩ := ck
  subst hn1
  intro H locs ls hP hD hS hl
  have hPc : va_P D vwCl wc H := by
    intro j q hq
    have h1 : (isC.map (fun i => ws[i]?))[j]? = some (some q) := by rw [hC, List.getElem?_map, hq]; rfl
    rw [List.getElem?_map] at h1
    cases hi : isC[j]? with
    | none => rw [hi] at h1; cases h1
    | some i => rw [hi] at h1; exact hP i q (Option.some.inj h1)
  have hDc := hD.sub isC hnC hC
  refine r_back (va_runI (As := As) (rest := rest) ⟨hx, hb, hml, hown, hts⟩ (hM H.size) (cwI _ hts (goodG (fun w hw => ?_)) rfl rfl rfl (hts _ c1) (hts _ hq1) (hts _ hq2) hq3 c3 hR) ⟨fun a U g mk q => ⟨q.1, q.2.1, q.2.2.1, va_K.moved (u := U) (U := U.calling g mk a) (Vm.Alike.refl U.vm) q.2.2.2.1, q.2.2.2.2.1, q.2.2.2.2.2.calling⟩, fun U hU hW => ⟨rfl, by rw [hU], by rw [hU]; exact hPc, va_K.moved hW.alike hK, hDc.weaken (fun _ _ _ _ => trivial), hN'.moved hW⟩⟩ rfl rfl hl.1 hst (lv_room hrm) hd hroom) hP hD hS hA hl isC isR hC hRr hnd hdis kk
  rcases List.mem_cons.mp hw with rfl | h
  · exact c2
  · exact h
theorem r_callIN (C : Ok G l R D cI cR cc nL y) {y2 : MethodName} {cc2 : ByteArray} {maxL : Nat} {rm : Room} {As rest : List Value} {b index np : Nat} {wc wr : va_W} {Post : Option Value → va_W → Prop} (hM : Ctr l D cI cR y2 cc2 maxL none rm (.ref b :: As) wc Post) (ck : CalOk y2 cc2 maxL none np) (hn1 : As.length = np) (hd : Dc cc pc 3 pc2 (.invokespecial index)) (host : String) (hq1 : ∀ U : State, nestOk U → va_Nw (.methodLinkNest y.cls index y2 host) U) (hq2 : Cond.instanceMethod y2 ∈ lw_g) (hq3 : y2.name = "<init>") (hR : rm.frames + 1 ≤ R.frames ∧ 8 + (maxL + 11) + rm.locals ≤ R.locals) (isC isR : List Nat) (hC : isC.map (fun i => ws[i]?) = wc.map some) (hRr : isR.map (fun i => ws[i]?) = wr.map some) (hnC : va_nd isC = true) (hnd : va_nd isR = true) (hdis : ∀ i ∈ isR, i ∉ isC) (hst : st = As.reverse ++ .ref b :: rest) (hrm : (rest.map fun v => v.category).sum ≤ 8) (hroom : k + rm.cells ≤ R.cells ∧ n + rm.slots ≤ R.slots)
    (kk : ∀ (v : Option Value) (w : va_W), Post v w → Wr G (k + rm.cells) (n + rm.slots) pc2 lv (v.toList ++ rest) (wr ++ w)) : Wr G k n pc lv st ws := by
  obtain ⟨p, l, e, R, s, m, args, below, meth, c, D, cI, cR, A, nL, Q⟩ := G
  obtain ⟨⟨rfl, rfl, rfl, rfl, rfl, rfl⟩, hx, hb, hts, hown, hK, hml, hlocks, hA, hN', hmn⟩ := C
  obtain ⟨hd, rfl⟩ := hd
  obtain ⟨c1, c2, c3⟩ := ck
  subst hn1
  intro H locs ls hP hD hS hl
  have hPc : va_P D vwCl wc H := by
    intro j q hq
    have h1 : (isC.map (fun i => ws[i]?))[j]? = some (some q) := by rw [hC, List.getElem?_map, hq]; rfl
    rw [List.getElem?_map] at h1
    cases hi : isC[j]? with
    | none => rw [hi] at h1; cases h1
    | some i => rw [hi] at h1; exact hP i q (Option.some.inj h1)
  have hDc := hD.sub isC hnC hC
  refine r_back (va_runIN (As := As) (rest := rest) ⟨hx, hb, hml, hown, hts⟩ (hM H.size) ⟨va_cnB _ hts (goodG (fun w hw => ?_)) rfl rfl rfl (hq1 s hN') (hts _ c1) c3 hR, hq3, hts _ hq2⟩ ⟨fun a U g mk q => ⟨q.1, q.2.1, q.2.2.1, va_K.moved (u := U) (U := U.calling g mk a) (Vm.Alike.refl U.vm) q.2.2.2.1, q.2.2.2.2.1, q.2.2.2.2.2.calling⟩, fun U hU hW => ⟨rfl, by rw [hU], by rw [hU]; exact hPc, va_K.moved hW.alike hK, hDc.weaken (fun _ _ _ _ => trivial), hN'.moved hW⟩⟩ rfl rfl hl.1 hst (lv_room hrm) hd hroom) hP hD hS hA hl isC isR hC hRr hnd hdis kk
  rcases List.mem_cons.mp hw with rfl | h
  · exact c2
  · exact h
end Rows2
end
section
/-! what the walks use beside the rows: functional contracts, numbers, the classes, the methods that are called -/
def rP (r : Option Value) (w : va_W) : Option Value → va_W → Prop := fun v w2 => v = r ∧ w2 = w
theorem r_fin {G : Cxt} {k n pc2 : Nat} {lv : List (Nat × Value)} {r : Option Value} {w wr ws2 : va_W} {rest st2 : List Value} (h1 : r.toList ++ rest = st2) (h2 : wr ++ w = ws2) (kk : Wr G k n pc2 lv st2 ws2) : ∀ (v : Option Value) (w2 : va_W), rP r w v w2 → Wr G (k + 0) (n + 0) pc2 lv (v.toList ++ rest) (wr ++ w2) := by
  rintro v w2 ⟨rfl, rfl⟩
  subst h1
  subst h2
  exact kk
theorem r_top {G : Cxt} {k n pc : Nat} {lv : List (Nat × Value)} {st : List Value} {ws : va_W} {a b : Int32} (h : a = b) (kk : Wr G k n pc lv (.int b :: st) ws) : Wr G k n pc lv (.int a :: st) ws := h ▸ kk
theorem nle {a b : Nat} (h : Nat.ble a b = true) : a ≤ b := Nat.le_of_ble_eq_true h
theorem nA {a b : Int32} {x y : Nat} (ha : a = nI x) (hb : b = nI y) : a + b = nI (x + y) := by rw [ha, hb]; exact nI_add x y
theorem nM {a b : Int32} {x y : Nat} (ha : a = nI x) (hb : b = nI y) : a * b = nI (x * y) := by rw [ha, hb]; exact pk_mul x y
theorem clX0_w : ∀ w ∈ u_ws RX0 TX0 6, w ∈ lw_g := by
  show ∀ w ∈ [Cond.laysFinal "EtchedPlate$Plan" "EtchedPlate$Plan" "fewest" "[I", Cond.laysFinal "EtchedPlate$Plan" "EtchedPlate$Plan" "most" "[I", Cond.laysFinal "EtchedPlate$Plan" "EtchedPlate$Plan" "totals" "[I", Cond.lays "EtchedPlate$Plan" "EtchedPlate$Plan" "lineCount" "I", Cond.lays "EtchedPlate$Plan" "EtchedPlate$Plan" "totalCount" "I", Cond.lays "EtchedPlate$Plan" "EtchedPlate$Plan" "blockedLines" "I"], w ∈ lw_g
  exact List.forall_mem_cons.mpr ⟨q_108, List.forall_mem_cons.mpr ⟨q_110, List.forall_mem_cons.mpr ⟨q_112, List.forall_mem_cons.mpr ⟨q_114, List.forall_mem_cons.mpr ⟨q_116, List.forall_mem_cons.mpr ⟨q_118, fun _ h => absurd h List.not_mem_nil⟩⟩⟩⟩⟩⟩
theorem clX0 : ClsOk RX0 TX0 6 tyX0 0 := ⟨clX0_w, tyX0_ok, nmX0, rfl, by decide +kernel⟩
theorem clX1_w : ∀ w ∈ u_ws RX1 TX1 9, w ∈ lw_g := by
  show ∀ w ∈ [Cond.laysFinal "EtchedPlate$Plate" "EtchedPlate$Plate" "depths" "[I", Cond.laysFinal "EtchedPlate$Plate" "EtchedPlate$Plate" "printStates" "[I", Cond.laysFinal "EtchedPlate$Plate" "EtchedPlate$Plate" "printTones" "[I", Cond.lays "EtchedPlate$Plate" "EtchedPlate$Plate" "lineCount" "I", Cond.lays "EtchedPlate$Plate" "EtchedPlate$Plate" "varnishedLines" "I", Cond.lays "EtchedPlate$Plate" "EtchedPlate$Plate" "strength" "I", Cond.lays "EtchedPlate$Plate" "EtchedPlate$Plate" "printCount" "I", Cond.lays "EtchedPlate$Plate" "EtchedPlate$Plate" "stateNumber" "I", Cond.lays "EtchedPlate$Plate" "EtchedPlate$Plate" "workedSincePrint" "Z"], w ∈ lw_g
  exact List.forall_mem_cons.mpr ⟨q_73, List.forall_mem_cons.mpr ⟨q_75, List.forall_mem_cons.mpr ⟨q_77, List.forall_mem_cons.mpr ⟨q_79, List.forall_mem_cons.mpr ⟨q_81, List.forall_mem_cons.mpr ⟨q_83, List.forall_mem_cons.mpr ⟨q_85, List.forall_mem_cons.mpr ⟨q_87, List.forall_mem_cons.mpr ⟨q_89, fun _ h => absurd h List.not_mem_nil⟩⟩⟩⟩⟩⟩⟩⟩⟩
theorem clX1 : ClsOk RX1 TX1 9 tyX1 1 := ⟨clX1_w, tyX1_ok, nmX1, rfl, by decide +kernel⟩
theorem clX2_w : ∀ w ∈ u_ws RX2 TX2 6, w ∈ lw_g := by
  show ∀ w ∈ [Cond.laysFinal "EtchedPlate" "EtchedPlate" "now" "LEtchedPlate$Plate;", Cond.laysFinal "EtchedPlate" "EtchedPlate" "saved" "[LEtchedPlate$Plate;", Cond.laysFinal "EtchedPlate" "EtchedPlate" "plan" "LEtchedPlate$Plan;", Cond.laysFinal "EtchedPlate" "EtchedPlate" "targets" "[I", Cond.laysFinal "EtchedPlate" "EtchedPlate" "errors" "[I", Cond.lays "EtchedPlate" "EtchedPlate" "savedCount" "I"], w ∈ lw_g
  exact List.forall_mem_cons.mpr ⟨q_127, List.forall_mem_cons.mpr ⟨q_129, List.forall_mem_cons.mpr ⟨q_131, List.forall_mem_cons.mpr ⟨q_133, List.forall_mem_cons.mpr ⟨q_135, List.forall_mem_cons.mpr ⟨q_137, fun _ h => absurd h List.not_mem_nil⟩⟩⟩⟩⟩⟩
theorem clX2 : ClsOk RX2 TX2 6 tyX2 2 := ⟨clX2_w, tyX2_ok, nmX2, rfl, by decide +kernel⟩
theorem clX3_w : ∀ w ∈ u_ws RX3 TX3 11, w ∈ lw_g := by
  show ∀ w ∈ [Cond.laysFinal "EtchedPlateModel" "EtchedPlateModel" "now" "[I", Cond.laysFinal "EtchedPlateModel" "EtchedPlateModel" "past" "[I", Cond.lays "EtchedPlateModel" "EtchedPlateModel" "saved" "I", Cond.laysFinal "EtchedPlateModel" "EtchedPlateModel" "errors" "[I", Cond.laysFinal "EtchedPlateModel" "EtchedPlateModel" "target" "[I", Cond.laysFinal "EtchedPlateModel" "EtchedPlateModel" "ways" "[I", Cond.laysFinal "EtchedPlateModel" "EtchedPlateModel" "ahead" "[I", Cond.laysFinal "EtchedPlateModel" "EtchedPlateModel" "totals" "[I", Cond.laysFinal "EtchedPlateModel" "EtchedPlateModel" "uses" "[I", Cond.lays "EtchedPlateModel" "EtchedPlateModel" "totalMany" "I", Cond.lays "EtchedPlateModel" "EtchedPlateModel" "hash" "J"], w ∈ lw_g
  exact List.forall_mem_cons.mpr ⟨q_410, List.forall_mem_cons.mpr ⟨q_412, List.forall_mem_cons.mpr ⟨q_414, List.forall_mem_cons.mpr ⟨q_416, List.forall_mem_cons.mpr ⟨q_418, List.forall_mem_cons.mpr ⟨q_420, List.forall_mem_cons.mpr ⟨q_422, List.forall_mem_cons.mpr ⟨q_424, List.forall_mem_cons.mpr ⟨q_426, List.forall_mem_cons.mpr ⟨q_428, List.forall_mem_cons.mpr ⟨q_430, fun _ h => absurd h List.not_mem_nil⟩⟩⟩⟩⟩⟩⟩⟩⟩⟩⟩
theorem clX3 : ClsOk RX3 TX3 11 tyX3 3 := ⟨clX3_w, tyX3_ok, nmX3, rfl, by decide +kernel⟩
theorem k_X0_init : CalOk yX0_init cX0_init 1 none 0 := ⟨q_35, q_98, by decide +kernel⟩
theorem k_X0_make : CalOk yX0_make cX0_make 5 none 2 := ⟨q_35, q_320, by decide +kernel⟩
theorem k_X0_fewestMinutes : CalOk yX0_fewestMinutes cX0_fewestMinutes 2 (some .int) 2 := ⟨q_35, q_323, by decide +kernel⟩
theorem k_X0_mostMinutes : CalOk yX0_mostMinutes cX0_mostMinutes 2 (some .int) 2 := ⟨q_35, q_326, by decide +kernel⟩
theorem k_X0_chooseTotals : CalOk yX0_chooseTotals cX0_chooseTotals 4 none 0 := ⟨q_35, q_331, by decide +kernel⟩
theorem k_X0_nextTotal : CalOk yX0_nextTotal cX0_nextTotal 4 (some .int) 1 := ⟨q_35, q_335, by decide +kernel⟩
theorem k_X0_totalBefore : CalOk yX0_totalBefore cX0_totalBefore 2 (some .int) 1 := ⟨q_35, q_351, by decide +kernel⟩
theorem k_X0_minutesAt : CalOk yX0_minutesAt cX0_minutesAt 2 (some .int) 1 := ⟨q_35, q_347, by decide +kernel⟩
theorem k_X0_finishedBefore : CalOk yX0_finishedBefore cX0_finishedBefore 5 (some .int) 1 := ⟨q_35, q_359, by decide +kernel⟩
theorem k_X1_init : CalOk yX1_init cX1_init 1 none 0 := ⟨q_34, q_53, by decide +kernel⟩
theorem k_X1_copyFrom : CalOk yX1_copyFrom cX1_copyFrom 2 none 1 := ⟨q_34, q_159, by decide +kernel⟩
theorem k_X1_addLine : CalOk yX1_addLine cX1_addLine 2 (some .int) 0 := ⟨q_34, q_166, by decide +kernel⟩
theorem k_X1_etch : CalOk yX1_etch cX1_etch 5 (some .int) 1 := ⟨q_34, q_178, by decide +kernel⟩
theorem k_X1_rubDown : CalOk yX1_rubDown cX1_rubDown 3 (some .int) 2 := ⟨q_34, q_216, by decide +kernel⟩
theorem k_X1_addPrint : CalOk yX1_addPrint cX1_addPrint 4 (some .int) 0 := ⟨q_34, q_227, by decide +kernel⟩
theorem k_X1_wear : CalOk yX1_wear cX1_wear 2 none 0 := ⟨q_34, q_231, by decide +kernel⟩
theorem k_X1_depthSum : CalOk yX1_depthSum cX1_depthSum 3 (some .int) 0 := ⟨q_34, q_251, by decide +kernel⟩
theorem k_X1_printedTone : CalOk yX1_printedTone cX1_printedTone 3 (some .int) 2 := ⟨q_34, q_275, by decide +kernel⟩
theorem k_X1_nowhereDarker : CalOk yX1_nowhereDarker cX1_nowhereDarker 4 (some .boolean) 2 := ⟨q_34, q_283, by decide +kernel⟩
theorem k_X1_countOrders : CalOk yX1_countOrders cX1_countOrders 4 (some .int) 1 := ⟨q_34, q_292, by decide +kernel⟩
theorem k_X1_placesAmongLikes : CalOk yX1_placesAmongLikes cX1_placesAmongLikes 7 (some .int) 2 := ⟨q_34, q_296, by decide +kernel⟩
theorem k_X1_differenceFrom : CalOk yX1_differenceFrom cX1_differenceFrom 5 (some .int) 2 := ⟨q_34, q_305, by decide +kernel⟩
theorem k_X2_init : CalOk yX2_init cX2_init 2 none 0 := ⟨q_33, q_45, by decide +kernel⟩
theorem k_X2_draw : CalOk yX2_draw cX2_draw 1 (some .int) 0 := ⟨q_33, q_143, by decide +kernel⟩
theorem k_X2_setStrength : CalOk yX2_setStrength cX2_setStrength 3 (some .int) 1 := ⟨q_33, q_170, by decide +kernel⟩
theorem k_X2_dip : CalOk yX2_dip cX2_dip 2 (some .int) 1 := ⟨q_33, q_174, by decide +kernel⟩
theorem k_X2_varnish : CalOk yX2_varnish cX2_varnish 2 (some .int) 1 := ⟨q_33, q_188, by decide +kernel⟩
theorem k_X2_clean : CalOk yX2_clean cX2_clean 2 (some .int) 0 := ⟨q_33, q_204, by decide +kernel⟩
theorem k_X2_burnish : CalOk yX2_burnish cX2_burnish 3 (some .int) 2 := ⟨q_33, q_208, by decide +kernel⟩
theorem k_X2_pull : CalOk yX2_pull cX2_pull 1 (some .int) 0 := ⟨q_33, q_223, by decide +kernel⟩
theorem k_X2_lines : CalOk yX2_lines cX2_lines 1 (some .int) 0 := ⟨q_33, q_235, by decide +kernel⟩
theorem k_X2_depth : CalOk yX2_depth cX2_depth 2 (some .int) 1 := ⟨q_33, q_239, by decide +kernel⟩
theorem k_X2_varnished : CalOk yX2_varnished cX2_varnished 1 (some .int) 0 := ⟨q_33, q_243, by decide +kernel⟩
theorem k_X2_meanDepthBits : CalOk yX2_meanDepthBits cX2_meanDepthBits 2 (some .int) 0 := ⟨q_33, q_247, by decide +kernel⟩
theorem k_X2_prints : CalOk yX2_prints cX2_prints 1 (some .int) 0 := ⟨q_33, q_259, by decide +kernel⟩
theorem k_X2_stateOf : CalOk yX2_stateOf cX2_stateOf 2 (some .int) 1 := ⟨q_33, q_263, by decide +kernel⟩
theorem k_X2_tone : CalOk yX2_tone cX2_tone 3 (some .int) 2 := ⟨q_33, q_271, by decide +kernel⟩
theorem k_X2_mayPrecede : CalOk yX2_mayPrecede cX2_mayPrecede 3 (some .int) 2 := ⟨q_33, q_279, by decide +kernel⟩
theorem k_X2_orders : CalOk yX2_orders cX2_orders 2 (some .int) 1 := ⟨q_33, q_288, by decide +kernel⟩
theorem k_X2_bestState : CalOk yX2_bestState cX2_bestState 5 (some .int) 0 := ⟨q_33, q_301, by decide +kernel⟩
theorem k_X2_setTarget : CalOk yX2_setTarget cX2_setTarget 4 (some .int) 2 := ⟨q_33, q_312, by decide +kernel⟩
theorem k_X2_dips : CalOk yX2_dips cX2_dips 1 (some .int) 0 := ⟨q_33, q_316, by decide +kernel⟩
theorem k_X2_dipMinutes : CalOk yX2_dipMinutes cX2_dipMinutes 3 (some .int) 1 := ⟨q_33, q_339, by decide +kernel⟩
theorem k_X2_dipVarnish : CalOk yX2_dipVarnish cX2_dipVarnish 3 (some .int) 1 := ⟨q_33, q_355, by decide +kernel⟩
theorem k_X2_obstacles : CalOk yX2_obstacles cX2_obstacles 1 (some .int) 0 := ⟨q_33, q_363, by decide +kernel⟩
theorem k_X2_undo : CalOk yX2_undo cX2_undo 1 (some .int) 0 := ⟨q_33, q_367, by decide +kernel⟩
theorem k_X2_errorCount : CalOk yX2_errorCount cX2_errorCount 2 (some .int) 1 := ⟨q_33, q_371, by decide +kernel⟩
theorem k_X2_digest : CalOk yX2_digest cX2_digest 4 (some .long) 0 := ⟨q_33, q_375, by decide +kernel⟩
theorem k_X2_mix : CalOk yX2_mix cX2_mix 3 (some .long) 2 := ⟨q_33, q_379, by decide +kernel⟩
theorem k_X2_mixLines : CalOk yX2_mixLines cX2_mixLines 6 (some .long) 1 := ⟨q_33, q_384, by decide +kernel⟩
theorem k_X2_mixPrints : CalOk yX2_mixPrints cX2_mixPrints 7 (some .long) 1 := ⟨q_33, q_388, by decide +kernel⟩
theorem k_X2_mixPlan : CalOk yX2_mixPlan cX2_mixPlan 6 (some .long) 1 := ⟨q_33, q_392, by decide +kernel⟩
theorem k_X2_refuse : CalOk yX2_refuse cX2_refuse 2 (some .int) 1 := ⟨q_33, q_147, by decide +kernel⟩
theorem k_X2_faultOfDip : CalOk yX2_faultOfDip cX2_faultOfDip 2 (some .int) 1 := ⟨q_33, q_343, by decide +kernel⟩
theorem k_X2_isLine : CalOk yX2_isLine cX2_isLine 2 (some .boolean) 1 := ⟨q_33, q_212, by decide +kernel⟩
theorem k_X2_isPrint : CalOk yX2_isPrint cX2_isPrint 2 (some .boolean) 1 := ⟨q_33, q_267, by decide +kernel⟩
theorem k_X2_allBelow : CalOk yX2_allBelow cX2_allBelow 1 (some .int) 1 := ⟨q_33, q_194, by decide +kernel⟩
theorem k_X2_isSetBelow : CalOk yX2_isSetBelow cX2_isSetBelow 2 (some .boolean) 2 := ⟨q_33, q_191, by decide +kernel⟩
theorem k_X2_contains : CalOk yX2_contains cX2_contains 2 (some .boolean) 2 := ⟨q_33, q_181, by decide +kernel⟩
theorem k_X2_save : CalOk yX2_save cX2_save 1 none 0 := ⟨q_33, q_151, by decide +kernel⟩
theorem k_X2_dropOldest : CalOk yX2_dropOldest cX2_dropOldest 3 none 0 := ⟨q_33, q_155, by decide +kernel⟩
theorem k_X2_bitsOf : CalOk yX2_bitsOf cX2_bitsOf 3 (some .int) 1 := ⟨q_33, q_254, by decide +kernel⟩
theorem k_X3_init : CalOk yX3_init cX3_init 1 none 0 := ⟨q_36, q_397, by decide +kernel⟩
theorem k_X3_within : CalOk yX3_within cX3_within 3 (some .boolean) 3 := ⟨q_36, q_455, by decide +kernel⟩
theorem k_X3_ones : CalOk yX3_ones cX3_ones 3 (some .int) 1 := ⟨q_36, q_466, by decide +kernel⟩
theorem k_X3_fails : CalOk yX3_fails cX3_fails 2 (some .int) 1 := ⟨q_36, q_440, by decide +kernel⟩
theorem k_X3_isLine : CalOk yX3_isLine cX3_isLine 2 (some .boolean) 1 := ⟨q_36, q_478, by decide +kernel⟩
theorem k_X3_isPrint : CalOk yX3_isPrint cX3_isPrint 2 (some .boolean) 1 := ⟨q_36, q_520, by decide +kernel⟩
theorem k_X3_saves : CalOk yX3_saves cX3_saves 2 none 0 := ⟨q_36, q_448, by decide +kernel⟩
theorem k_X3_undo : CalOk yX3_undo cX3_undo 2 (some .int) 0 := ⟨q_36, q_436, by decide +kernel⟩
theorem k_X3_draw : CalOk yX3_draw cX3_draw 1 (some .int) 0 := ⟨q_36, q_444, by decide +kernel⟩
theorem k_X3_setStrength : CalOk yX3_setStrength cX3_setStrength 3 (some .int) 1 := ⟨q_36, q_452, by decide +kernel⟩
theorem k_X3_dip : CalOk yX3_dip cX3_dip 5 (some .int) 1 := ⟨q_36, q_459, by decide +kernel⟩
theorem k_X3_varnish : CalOk yX3_varnish cX3_varnish 2 (some .int) 1 := ⟨q_36, q_463, by decide +kernel⟩
theorem k_X3_clean : CalOk yX3_clean cX3_clean 2 (some .int) 0 := ⟨q_36, q_470, by decide +kernel⟩
theorem k_X3_burnish : CalOk yX3_burnish cX3_burnish 3 (some .int) 2 := ⟨q_36, q_474, by decide +kernel⟩
theorem k_X3_pull : CalOk yX3_pull cX3_pull 3 (some .int) 0 := ⟨q_36, q_482, by decide +kernel⟩
theorem k_X3_lines : CalOk yX3_lines cX3_lines 1 (some .int) 0 := ⟨q_36, q_486, by decide +kernel⟩
theorem k_X3_depth : CalOk yX3_depth cX3_depth 2 (some .int) 1 := ⟨q_36, q_490, by decide +kernel⟩
theorem k_X3_varnished : CalOk yX3_varnished cX3_varnished 1 (some .int) 0 := ⟨q_36, q_494, by decide +kernel⟩
theorem k_X3_meanDepthBits : CalOk yX3_meanDepthBits cX3_meanDepthBits 3 (some .int) 0 := ⟨q_36, q_498, by decide +kernel⟩
theorem k_X3_prints : CalOk yX3_prints cX3_prints 1 (some .int) 0 := ⟨q_36, q_512, by decide +kernel⟩
theorem k_X3_stateOf : CalOk yX3_stateOf cX3_stateOf 2 (some .int) 1 := ⟨q_36, q_516, by decide +kernel⟩
theorem k_X3_toneOf : CalOk yX3_toneOf cX3_toneOf 3 (some .int) 2 := ⟨q_36, q_528, by decide +kernel⟩
theorem k_X3_tone : CalOk yX3_tone cX3_tone 3 (some .int) 2 := ⟨q_36, q_524, by decide +kernel⟩
theorem k_X3_may : CalOk yX3_may cX3_may 5 (some .boolean) 2 := ⟨q_36, q_536, by decide +kernel⟩
theorem k_X3_mayPrecede : CalOk yX3_mayPrecede cX3_mayPrecede 3 (some .int) 2 := ⟨q_36, q_532, by decide +kernel⟩
theorem k_X3_ordersOf : CalOk yX3_ordersOf cX3_ordersOf 5 (some .int) 1 := ⟨q_36, q_544, by decide +kernel⟩
theorem k_X3_orders : CalOk yX3_orders cX3_orders 2 (some .int) 1 := ⟨q_36, q_540, by decide +kernel⟩
theorem k_X3_bestState : CalOk yX3_bestState cX3_bestState 7 (some .int) 0 := ⟨q_36, q_548, by decide +kernel⟩
theorem k_X3_setTarget : CalOk yX3_setTarget cX3_setTarget 4 (some .int) 2 := ⟨q_36, q_552, by decide +kernel⟩
theorem k_X3_allows : CalOk yX3_allows cX3_allows 3 (some .boolean) 2 := ⟨q_36, q_568, by decide +kernel⟩
theorem k_X3_greatest : CalOk yX3_greatest cX3_greatest 3 (some .int) 1 := ⟨q_36, q_564, by decide +kernel⟩
theorem k_X3_blocked : CalOk yX3_blocked cX3_blocked 3 (some .int) 0 := ⟨q_36, q_560, by decide +kernel⟩
theorem k_X3_usedBy : CalOk yX3_usedBy cX3_usedBy 3 (some .int) 1 := ⟨q_36, q_576, by decide +kernel⟩
theorem k_X3_plans : CalOk yX3_plans cX3_plans 3 none 0 := ⟨q_36, q_572, by decide +kernel⟩
theorem k_X3_minutesOf : CalOk yX3_minutesOf cX3_minutesOf 2 (some .int) 1 := ⟨q_36, q_588, by decide +kernel⟩
theorem k_X3_doneBefore : CalOk yX3_doneBefore cX3_doneBefore 4 (some .int) 1 := ⟨q_36, q_596, by decide +kernel⟩
theorem k_X3_dips : CalOk yX3_dips cX3_dips 1 (some .int) 0 := ⟨q_36, q_556, by decide +kernel⟩
theorem k_X3_against : CalOk yX3_against cX3_against 2 (some .int) 1 := ⟨q_36, q_584, by decide +kernel⟩
theorem k_X3_dipMinutes : CalOk yX3_dipMinutes cX3_dipMinutes 3 (some .int) 1 := ⟨q_36, q_580, by decide +kernel⟩
theorem k_X3_dipVarnish : CalOk yX3_dipVarnish cX3_dipVarnish 3 (some .int) 1 := ⟨q_36, q_592, by decide +kernel⟩
theorem k_X3_obstacles : CalOk yX3_obstacles cX3_obstacles 1 (some .int) 0 := ⟨q_36, q_600, by decide +kernel⟩
theorem k_X3_errorCount : CalOk yX3_errorCount cX3_errorCount 2 (some .int) 1 := ⟨q_36, q_604, by decide +kernel⟩
theorem k_X3_mix : CalOk yX3_mix cX3_mix 2 none 1 := ⟨q_36, q_613, by decide +kernel⟩
theorem k_X3_mixPrints : CalOk yX3_mixPrints cX3_mixPrints 3 none 0 := ⟨q_36, q_618, by decide +kernel⟩
theorem k_X3_mixPlan : CalOk yX3_mixPlan cX3_mixPlan 2 none 0 := ⟨q_36, q_622, by decide +kernel⟩
theorem k_X3_digest : CalOk yX3_digest cX3_digest 2 (some .long) 0 := ⟨q_36, q_608, by decide +kernel⟩
theorem k_Jxf58ca_isNaN_12338 : CalOk yJxf58ca_isNaN_12338 cJxf58ca_isNaN_12338 1 (some .boolean) 1 := ⟨q_40, q_504, by decide +kernel⟩
theorem k_Jxf58ca_floatToIntBits_5c35a : CalOk yJxf58ca_floatToIntBits_5c35a cJxf58ca_floatToIntBits_5c35a 1 (some .int) 1 := ⟨q_40, q_501, by decide +kernel⟩
theorem k_J6_bitCount_0f7a4 : CalOk yJ6_bitCount_0f7a4 cJ6_bitCount_0f7a4 1 (some .int) 1 := ⟨q_39, q_197, by decide +kernel⟩
theorem k_J9_abs_0f7a4 : CalOk yJ9_abs_0f7a4 cJ9_abs_0f7a4 1 (some .int) 1 := ⟨q_38, q_308, by decide +kernel⟩
theorem k_J9_max_7cf53 : CalOk yJ9_max_7cf53 cJ9_max_7cf53 2 (some .int) 2 := ⟨q_38, q_219, by decide +kernel⟩
theorem k_J9_min_7cf53 : CalOk yJ9_min_7cf53 cJ9_min_7cf53 2 (some .int) 2 := ⟨q_38, q_184, by decide +kernel⟩
end
section
/-! the class EtchedPlate$Plate: what its methods do, as functions -/
theorem zI01 {c : Prop} [Decidable c] : narrow .boolean (.int (if c then (0 : Int32) else 1)) = .int (if c then (0 : Int32) else 1) := by split <;> rfl
theorem zI10 {c : Prop} [Decidable c] : narrow .boolean (.int (if c then (1 : Int32) else 0)) = .int (if c then (1 : Int32) else 0) := by split <;> rfl
def ctF (sx kx : Int32) : Int32 := if sx >>> (kx &&& 31) &&& 1 = 0 then 0 else 1
def weD (d : Nat → Int32) : Nat → Nat → Int32
  | 0 => d
  | i + 1 => upd (weD d i) i (if 0 < weD d i i - 1 then weD d i i - 1 else 0)
def etD (d : Nat → Int32) (va sg mi : Int32) : Nat → Nat → Int32
  | 0 => d
  | i + 1 => if ctF va (nI i) = 0 then upd (etD d va sg mi i) i (if etD d va sg mi i i + sg * mi < 99 then etD d va sg mi i i + sg * mi else 99) else etD d va sg mi i
def etC (d : Nat → Int32) (va sg mi : Int32) : Nat → Int32
  | 0 => 0
  | i + 1 => if etD d va sg mi (i + 1) i ≤ etD d va sg mi i i then etC d va sg mi i else etC d va sg mi i + 1
theorem zB {w : Int32} (h : w = 0 ∨ w = 1) : narrow .boolean (.int w) = .int w := by rcases h with rfl | rfl <;> rfl
theorem zBf {w : Int32} (h : w = 0 ∨ w = 1) : fits .boolean (.int w) = true := by rcases h with rfl | rfl <;> rfl
def ndF (tn : Nat → Int32) (ii jj : Nat) : Nat → Int32
  | 0 => 1
  | k + 1 => if tn (ii * 10 + k) ≤ tn (jj * 10 + k) then ndF tn ii jj k else 0
theorem nd_1 (tn : Nat → Int32) {ii jj : Nat} : ∀ {n : Nat}, (∀ k, k < n → tn (ii * 10 + k) ≤ tn (jj * 10 + k)) → ndF tn ii jj n = 1
  | 0, _ => rfl
  | n + 1, h => by rw [ndF, if_pos (h n (Nat.lt_succ_self n))]; exact nd_1 tn (fun k hk => h k (Nat.lt_succ_of_lt hk))
theorem nd_0 (tn : Nat → Int32) {ii jj i : Nat} : ∀ {n : Nat}, i < n → ¬ tn (ii * 10 + i) ≤ tn (jj * 10 + i) → ndF tn ii jj n = 0
  | 0, h, _ => absurd h (Nat.not_lt_zero i)
  | n + 1, h, hc => by
    rw [ndF]
    by_cases e : i = n
    · subst e; rw [if_neg hc]
    · rw [nd_0 tn (n := n) (by omega) hc]; split <;> rfl
def plV (tn : Nat → Int32) (nl : Nat) (ps : Int32) (pq : Nat) : Nat → Int32
  | 0 => 1
  | i + 1 => if ctF ps (nI i) = 0 then plV tn nl ps pq i else if ndF tn i pq nl = 0 then plV tn nl ps pq i else if ndF tn pq i nl = 0 then plV tn nl ps pq i else plV tn nl ps pq i + 1
def plX (tn : Nat → Int32) (nl : Nat) (ps : Int32) (pq : Nat) : Nat → Bool
  | 0 => false
  | i + 1 => plX tn nl ps pq i || (!decide (ctF ps (nI i) = 0) && decide (ndF tn i pq nl = 0) && decide (ndF tn pq i nl = 0))
def plF (tn : Nat → Int32) (nl : Nat) (ps : Int32) (pq : Nat) : Int32 := if plX tn nl ps pq pq = true then 0 else plV tn nl ps pq pq
theorem pl_dead {tn : Nat → Int32} {nl : Nat} {ps : Int32} {pq i : Nat} (h : i < pq) (h1 : ¬ ctF ps (nI i) = 0) (h2 : ndF tn i pq nl = 0) (h3 : ndF tn pq i nl = 0) : plF tn nl ps pq = 0 := by
  have key : ∀ n, i < n → plX tn nl ps pq n = true := by
    intro n
    induction n with
    | zero => intro h; exact absurd h (Nat.not_lt_zero i)
    | succ n ih =>
      intro hn
      rw [plX]
      by_cases e : i = n
      · subst e; simp [h1, h2, h3]
      · rw [ih (by omega)]; rfl
  rw [plF, if_pos (key pq h)]
theorem pl_live {tn : Nat → Int32} {nl : Nat} {ps : Int32} {pq : Nat} (h : plX tn nl ps pq pq = false) : plF tn nl ps pq = plV tn nl ps pq pq := by
  rw [plF, if_neg (by rw [h]; decide)]
def coF (tn : Nat → Int32) (nl : Nat) (ps : Int32) : Nat → Int32
  | 0 => 1
  | i + 1 => if ctF ps (nI i) = 0 then coF tn nl ps i else coF tn nl ps i * plF tn nl ps i
def dfF (tn tg : Nat → Int32) (pq : Nat) : Nat → Int32
  | 0 => 0
  | i + 1 => dfF tn tg pq i + (if 0 ≤ tn (pq * 10 + i) - tg i then tn (pq * 10 + i) - tg i else 0 - (tn (pq * 10 + i) - tg i))
def apS (pr : Nat) (sn wk : Int32) : Int32 := if nI pr ≤ 0 then sn else if wk = 0 then sn else sn + 1
def apT (d tn : Nat → Int32) (nl pr : Nat) : Nat → Nat → Int32
  | 0 => tn
  | i + 1 => upd (apT d tn nl pr i) (pr * 10 + i) ((if nI nl ≤ nI i then 0 else d i) / 10)
def apD (d : Nat → Int32) (nl pr : Nat) : Nat → Int32 := if nI ((pr + 1) % 3) = 0 then weD d nl else d
def dsF (d : Nat → Int32) : Nat → Int32
  | 0 => 0
  | i + 1 => dsF d i + d i
set_option maxHeartbeats 4000000 in
set_option maxRecDepth 100000 in
/-- contains(set, member) -/
theorem c_X2_contains (l : Launch) (D : va_G) (cI cR : ClassId) (sx : Int32) (kx : Int32)  : Ctr l D cI cR yX2_contains cX2_contains 2 ((some .boolean)) ({ frames := 0, cells := 0, slots := 0, locals := 0 }) [.int sx, .int kx] [] (rP (some (.int (ctF sx kx))) []) := by
  refine ctr_of (lv0 := [(0, .int sx), (1, .int kx)]) (by decide) (nle rfl) rfl (fun G C E => ?_)
  refine r_iload_n C dX2_contains_0 0 rfl ?_
  refine r_iload_n C dX2_contains_1 1 rfl ?_
  refine r_ishr C dX2_contains_2 ?_
  refine r_iconst C dX2_contains_3 (v := 1) (by decide) ?_
  refine r_iand C dX2_contains_4 ?_
  have J_3 : ∀ (v_2 : Int32), v_2 = (if ((sx >>> (kx &&& 31)) &&& 1) = 0 then 0 else 1) → Wr G 0 0 13 [(0, .int sx), (1, .int kx)] [.int v_2] [] := by
    intro v_2 ev_2
    subst ev_2
    exact r_zret C E dX2_contains_13 (nle rfl) (nle rfl) zI01 ⟨rfl, rfl⟩
  refine r_if_eq C dX2_contains_5 (tgt := 12) (by decide) (fun c_1 => ?_) (fun c_1 => ?_)
  · refine r_iconst C dX2_contains_12 (v := 0) (by decide) ?_
    exact J_3 _ (by first | rfl | simp only [if_pos c_1])
  · refine r_iconst C dX2_contains_8 (v := 1) (by decide) ?_
    refine r_goto C dX2_contains_9 (tgt := 13) (by decide) ?_
    exact J_3 _ (by first | rfl | simp only [if_neg c_1])
set_option maxHeartbeats 4000000 in
set_option maxRecDepth 100000 in
/-- addLine() -/
theorem c_X1_addLine (l : Launch) (D : va_G) (cI cR : ClassId) (h0 : Nat) (a1 : Nat) (a2 : Nat) (a3 : Nat) (d : Nat → Int32) (nl : Nat) (va : Int32) (sg : Int32) (pr : Nat) (sn : Int32) (wk : Int32) (hnl : nl < 10) : Ctr l D cI cR yX1_addLine cX1_addLine 2 ((some .int)) ({ frames := 0, cells := 0, slots := 0, locals := 0 }) [.ref h0] [(h0, .inr (1, [.ref a1, .ref a2, .ref a3, .int (nI nl), .int va, .int sg, .int (nI pr), .int sn, .int wk])), (a1, .inl (cI, 10, .inl d))] (rP (some (.int (nI nl))) [(h0, .inr (1, [.ref a1, .ref a2, .ref a3, .int (nI (nl + 1)), .int va, .int sg, .int (nI pr), .int sn, .int 1])), (a1, .inl (cI, 10, .inl (upd d nl 0)))]) := by
  refine ctr_of (lv0 := [(0, .ref h0)]) (by decide) (nle rfl) rfl (fun G C E => ?_)
  refine r_aload_n C dX1_addLine_0 0 rfl ?_
  refine r_get C clX1 dX1_addLine_1 0 3 rfl (by decide) q_61 rfl ?_
  refine r_istore_n C dX1_addLine_4 (lv2 := [(1, .int (nI nl)), (0, .ref h0)]) (by decide) rfl ?_
  refine r_aload_n C dX1_addLine_5 1 rfl ?_
  refine r_get C clX1 dX1_addLine_6 0 0 rfl (by decide) q_55 rfl ?_
  refine r_iload_n C dX1_addLine_9 0 rfl ?_
  refine r_iconst C dX1_addLine_10 (v := 0) (by decide) ?_
  refine r_iast C dX1_addLine_11 1 rfl nl rfl (by omega) (by decide) (ws2 := [(h0, .inr (1, [.ref a1, .ref a2, .ref a3, .int (nI nl), .int va, .int sg, .int (nI pr), .int sn, .int wk])), (a1, .inl (cI, 10, .inl (upd d nl 0)))]) rfl ?_
  refine r_aload_n C dX1_addLine_12 1 rfl ?_
  refine r_dup C dX1_addLine_13 rfl ?_
  refine r_get C clX1 dX1_addLine_14 0 3 rfl (by decide) q_61 rfl ?_
  refine r_iconst C dX1_addLine_17 (v := 1) (by decide) ?_
  refine r_iadd C dX1_addLine_18 ?_
  refine r_top (b := nI (nl + 1)) (nA rfl rfl) ?_
  refine r_put C clX1 dX1_addLine_19 0 3 rfl (by decide) q_61 rfl rfl rfl (nle rfl) (ws2 := [(h0, .inr (1, [.ref a1, .ref a2, .ref a3, .int (nI (nl + 1)), .int va, .int sg, .int (nI pr), .int sn, .int wk])), (a1, .inl (cI, 10, .inl (upd d nl 0)))]) rfl ?_
  refine r_aload_n C dX1_addLine_22 1 rfl ?_
  refine r_iconst C dX1_addLine_23 (v := 1) (by decide) ?_
  refine r_put C clX1 dX1_addLine_24 0 8 rfl (by decide) q_72 rfl (by decide) rfl (nle rfl) (ws2 := [(h0, .inr (1, [.ref a1, .ref a2, .ref a3, .int (nI (nl + 1)), .int va, .int sg, .int (nI pr), .int sn, .int 1])), (a1, .inl (cI, 10, .inl (upd d nl 0)))]) rfl ?_
  refine r_iload_n C dX1_addLine_27 0 rfl ?_
  exact r_iret C E dX1_addLine_28 (nle rfl) (nle rfl) ⟨rfl, rfl⟩
set_option maxHeartbeats 4000000 in
set_option maxRecDepth 100000 in
/-- wear() -/
theorem c_X1_wear (l : Launch) (D : va_G) (cI cR : ClassId) (h0 : Nat) (a1 : Nat) (a2 : Nat) (a3 : Nat) (d : Nat → Int32) (nl : Nat) (va : Int32) (sg : Int32) (pr : Nat) (sn : Int32) (wk : Int32) (hnl : nl ≤ 10) : Ctr l D cI cR yX1_wear cX1_wear 2 none ({ frames := 1, cells := 0, slots := 0, locals := 26 }) [.ref h0] [(h0, .inr (1, [.ref a1, .ref a2, .ref a3, .int (nI nl), .int va, .int sg, .int (nI pr), .int sn, .int wk])), (a1, .inl (cI, 10, .inl d))] (rP none [(h0, .inr (1, [.ref a1, .ref a2, .ref a3, .int (nI nl), .int va, .int sg, .int (nI pr), .int sn, .int wk])), (a1, .inl (cI, 10, .inl (weD d nl)))]) := by
  refine ctr_of (lv0 := [(0, .ref h0)]) (by decide) (nle rfl) rfl (fun G C E => ?_)
  refine r_iconst C dX1_wear_0 (v := 0) (by decide) ?_
  refine r_istore_n C dX1_wear_1 (lv2 := [(1, .int 0), (0, .ref h0)]) (by decide) rfl ?_
  have L_2 : ∀ (z i : Nat), i ≤ nl → nl < i + z → ∀ (f : Nat → Int32), f = weD d i → Wr G 0 0 2 [(1, .int (nI i)), (0, .ref h0)] [] [(h0, .inr (1, [.ref a1, .ref a2, .ref a3, .int (nI nl), .int va, .int sg, .int (nI pr), .int sn, .int wk])), (a1, .inl (cI, 10, .inl f))] := by
    intro z
    induction z with
    | zero => intro i h1 h2; exact absurd h2 (by omega)
    | succ z ih_2 =>
      intro i hi_2 hz_2 f e_f
      refine r_iload_n C dX1_wear_2 0 rfl ?_
      refine r_aload_n C dX1_wear_3 1 rfl ?_
      refine r_get C clX1 dX1_wear_4 0 3 rfl (by decide) q_61 rfl ?_
      refine r_icmp_ge C dX1_wear_7 (tgt := 34) (by decide) (fun c_1 => ?_) (fun c_1 => ?_)
      · have n_2 := (nI_leI (a := nl) (b := i) (by omega) (by omega)).mp c_1
        have ex_2 : nl = i := by omega
        subst ex_2
        subst e_f
        exact r_vret C E dX1_wear_34 (nle rfl) (nle rfl) ⟨rfl, rfl⟩
      · have n_2 := mt (nI_leI (a := nl) (b := i) (by omega) (by omega)).mpr c_1
        refine r_aload_n C dX1_wear_10 1 rfl ?_
        refine r_get C clX1 dX1_wear_11 0 0 rfl (by decide) q_55 rfl ?_
        refine r_iload_n C dX1_wear_14 0 rfl ?_
        refine r_iconst C dX1_wear_15 (v := 0) (by decide) ?_
        refine r_aload_n C dX1_wear_16 1 rfl ?_
        refine r_get C clX1 dX1_wear_17 0 0 rfl (by decide) q_55 rfl ?_
        refine r_iload_n C dX1_wear_20 0 rfl ?_
        refine r_iald C dX1_wear_21 1 rfl i rfl (by omega) (by decide) ?_
        refine r_iconst C dX1_wear_22 (v := 1) (by decide) ?_
        refine r_isub C dX1_wear_23 ?_
        refine r_mmax C dX1_wear_24 q_217 (nle rfl) (nle rfl) (nle rfl) (nle rfl) ?_
        refine r_iast C dX1_wear_27 1 rfl i rfl (by omega) (by decide) (ws2 := [(h0, .inr (1, [.ref a1, .ref a2, .ref a3, .int (nI nl), .int va, .int sg, .int (nI pr), .int sn, .int wk])), (a1, .inl (cI, 10, .inl (upd f i (if 0 < (f i) - 1 then (f i) - 1 else 0))))]) rfl ?_
        refine r_iinc C dX1_wear_28 0 rfl (v := nI (i + 1)) (nI_1 _) (by decide) (lv2 := [(1, .int (nI (i + 1))), (0, .ref h0)]) rfl ?_
        refine r_goto C dX1_wear_31 (tgt := 2) (by decide) ?_
        exact ih_2 (i + 1) (by omega) (by omega) _ (by subst e_f; rfl) 
  exact L_2 (nl + 1) 0 (by omega) (by omega) _ rfl 
set_option maxHeartbeats 4000000 in
set_option maxRecDepth 100000 in
/-- etch(minutes) -/
theorem c_X1_etch (l : Launch) (D : va_G) (cI cR : ClassId) (h0 : Nat) (a1 : Nat) (a2 : Nat) (a3 : Nat) (d : Nat → Int32) (nl : Nat) (va : Int32) (sg : Int32) (pr : Nat) (sn : Int32) (wk : Int32) (mi : Int32) (hnl : nl ≤ 10) : Ctr l D cI cR yX1_etch cX1_etch 5 ((some .int)) ({ frames := 1, cells := 0, slots := 0, locals := 26 }) [.ref h0, .int mi] [(h0, .inr (1, [.ref a1, .ref a2, .ref a3, .int (nI nl), .int va, .int sg, .int (nI pr), .int sn, .int wk])), (a1, .inl (cI, 10, .inl d))] (rP (some (.int (etC d va sg mi nl))) [(h0, .inr (1, [.ref a1, .ref a2, .ref a3, .int (nI nl), .int va, .int sg, .int (nI pr), .int sn, .int (if mi ≤ 0 then wk else 1)])), (a1, .inl (cI, 10, .inl (etD d va sg mi nl)))]) := by
  refine ctr_of (lv0 := [(0, .ref h0), (1, .int mi)]) (by decide) (nle rfl) rfl (fun G C E => ?_)
  refine r_iload_n C dX1_etch_0 1 rfl ?_
  have J_3 : ∀ (v_2 : Int32), v_2 = (if mi ≤ 0 then wk else 1) → Wr G 0 0 9 [(0, .ref h0), (1, .int mi)] [] [(h0, .inr (1, [.ref a1, .ref a2, .ref a3, .int (nI nl), .int va, .int sg, .int (nI pr), .int sn, .int v_2])), (a1, .inl (cI, 10, .inl d))] := by
    intro v_2 ev_2
    subst ev_2
    refine r_iconst C dX1_etch_9 (v := 0) (by decide) ?_
    refine r_istore_n C dX1_etch_10 (lv2 := [(2, .int 0), (0, .ref h0), (1, .int mi)]) (by decide) rfl ?_
    refine r_iconst C dX1_etch_11 (v := 0) (by decide) ?_
    refine r_istore_n C dX1_etch_12 (lv2 := [(3, .int 0), (2, .int 0), (0, .ref h0), (1, .int mi)]) (by decide) rfl ?_
    have L_13 : ∀ (z i : Nat), i ≤ nl → nl < i + z → ∀ (cn : Int32) (f : Nat → Int32), cn = etC d va sg mi i → f = etD d va sg mi i → Wr G 0 0 13 [(3, .int (nI i)), (2, .int cn), (0, .ref h0), (1, .int mi)] [] [(h0, .inr (1, [.ref a1, .ref a2, .ref a3, .int (nI nl), .int va, .int sg, .int (nI pr), .int sn, .int (if mi ≤ 0 then wk else 1)])), (a1, .inl (cI, 10, .inl f))] := by
      intro z
      induction z with
      | zero => intro i h1 h2; exact absurd h2 (by omega)
      | succ z ih_13 =>
        intro i hi_13 hz_13 cn f e_cn e_f
        refine r_iload_n C dX1_etch_13 0 rfl ?_
        refine r_aload_n C dX1_etch_14 2 rfl ?_
        refine r_get C clX1 dX1_etch_15 0 3 rfl (by decide) q_61 rfl ?_
        refine r_icmp_ge C dX1_etch_18 (tgt := 80) (by decide) (fun c_4 => ?_) (fun c_4 => ?_)
        · have n_5 := (nI_leI (a := nl) (b := i) (by omega) (by omega)).mp c_4
          have ex_13 : nl = i := by omega
          subst ex_13
          subst e_cn
          subst e_f
          refine r_iload_n C dX1_etch_80 1 rfl ?_
          exact r_iret C E dX1_etch_81 (nle rfl) (nle rfl) ⟨rfl, rfl⟩
        · have n_5 := mt (nI_leI (a := nl) (b := i) (by omega) (by omega)).mpr c_4
          refine r_aload_n C dX1_etch_21 2 rfl ?_
          refine r_get C clX1 dX1_etch_22 0 0 rfl (by decide) q_55 rfl ?_
          refine r_iload_n C dX1_etch_25 0 rfl ?_
          refine r_iald C dX1_etch_26 1 rfl i rfl (by omega) (by decide) ?_
          refine r_istore C dX1_etch_27 (lv2 := [(4, .int (f i)), (3, .int (nI i)), (2, .int cn), (0, .ref h0), (1, .int mi)]) (by decide) rfl ?_
          refine r_aload_n C dX1_etch_29 3 rfl ?_
          refine r_get C clX1 dX1_etch_30 0 4 rfl (by decide) q_64 rfl ?_
          refine r_iload_n C dX1_etch_33 1 rfl ?_
          refine r_callSN C (As := [.int va, .int (nI i)]) (rest := []) (wr := [(h0, .inr (1, [.ref a1, .ref a2, .ref a3, .int (nI nl), .int va, .int sg, .int (nI pr), .int sn, .int (if mi ≤ 0 then wk else 1)])), (a1, .inl (cI, 10, .inl f))]) (c_X2_contains l D cI cR va (nI i) ) k_X2_contains rfl dX1_etch_34 "EtchedPlate" (fun U h => h.2.2.1) q_180 ⟨nle rfl, nle rfl⟩ [] [0, 1] rfl rfl rfl rfl (by decide) rfl (nle rfl) ⟨nle rfl, nle rfl⟩ (r_fin (st2 := [.int (ctF va (nI i))]) (ws2 := [(h0, .inr (1, [.ref a1, .ref a2, .ref a3, .int (nI nl), .int va, .int sg, .int (nI pr), .int sn, .int (if mi ≤ 0 then wk else 1)])), (a1, .inl (cI, 10, .inl f))]) rfl rfl ?_)
          have J_8 : ∀ (f_7 : Nat → Int32), f_7 = (if (ctF va (nI i)) = 0 then (upd f i (if (f i) + (sg * mi) < 99 then (f i) + (sg * mi) else 99)) else f) → Wr G 0 0 60 [(4, .int (f i)), (3, .int (nI i)), (2, .int cn), (0, .ref h0), (1, .int mi)] [] [(h0, .inr (1, [.ref a1, .ref a2, .ref a3, .int (nI nl), .int va, .int sg, .int (nI pr), .int sn, .int (if mi ≤ 0 then wk else 1)])), (a1, .inl (cI, 10, .inl f_7))] := by
            intro f_7 ef_7
            subst ef_7
            refine r_aload_n C dX1_etch_60 3 rfl ?_
            refine r_get C clX1 dX1_etch_61 0 0 rfl (by decide) q_55 rfl ?_
            refine r_iload_n C dX1_etch_64 1 rfl ?_
            refine r_iald C dX1_etch_65 1 rfl i rfl (by omega) (by decide) ?_
            refine r_iload C dX1_etch_66 0 rfl ?_
            have J_11 : ∀ (v_10 : Int32), v_10 = (if ((if (ctF va (nI i)) = 0 then (upd f i (if (f i) + (sg * mi) < 99 then (f i) + (sg * mi) else 99)) else f) i) ≤ (f i) then cn else (cn + 1)) → Wr G 0 0 74 [(4, .int (f i)), (3, .int (nI i)), (2, .int v_10), (0, .ref h0), (1, .int mi)] [] [(h0, .inr (1, [.ref a1, .ref a2, .ref a3, .int (nI nl), .int va, .int sg, .int (nI pr), .int sn, .int (if mi ≤ 0 then wk else 1)])), (a1, .inl (cI, 10, .inl (if (ctF va (nI i)) = 0 then (upd f i (if (f i) + (sg * mi) < 99 then (f i) + (sg * mi) else 99)) else f)))] := by
              intro v_10 ev_10
              subst ev_10
              refine r_iinc C dX1_etch_74 1 rfl (v := nI (i + 1)) (nI_1 _) (by decide) (lv2 := [(3, .int (nI (i + 1))), (4, .int (f i)), (2, .int (if ((if (ctF va (nI i)) = 0 then (upd f i (if (f i) + (sg * mi) < 99 then (f i) + (sg * mi) else 99)) else f) i) ≤ (f i) then cn else (cn + 1))), (0, .ref h0), (1, .int mi)]) rfl ?_
              refine r_goto C dX1_etch_77 (tgt := 13) (by decide) ?_
              refine r_lv [0, 2, 3, 4] (lv2 := [(3, .int (nI (i + 1))), (2, .int (if ((if (ctF va (nI i)) = 0 then (upd f i (if (f i) + (sg * mi) < 99 then (f i) + (sg * mi) else 99)) else f) i) ≤ (f i) then cn else (cn + 1))), (0, .ref h0), (1, .int mi)]) rfl ?_
              exact ih_13 (i + 1) (by omega) (by omega) _ _ (by subst e_cn; subst e_f; rfl) (by subst e_cn; subst e_f; rfl) 
            refine r_icmp_le C dX1_etch_68 (tgt := 74) (by decide) (fun c_9 => ?_) (fun c_9 => ?_)
            · exact J_11 _ (by first | rfl | simp only [if_pos c_9])
            · refine r_iinc C dX1_etch_71 2 rfl (v := cn + 1) rfl (by decide) (lv2 := [(2, .int (cn + 1)), (4, .int (f i)), (3, .int (nI i)), (0, .ref h0), (1, .int mi)]) rfl ?_
              refine r_lv [1, 2, 0, 3, 4] (lv2 := [(4, .int (f i)), (3, .int (nI i)), (2, .int (cn + 1)), (0, .ref h0), (1, .int mi)]) rfl ?_
              exact J_11 _ (by first | rfl | simp only [if_neg c_9])
          refine r_if_ne C dX1_etch_37 (tgt := 60) (by decide) (fun c_6 => ?_) (fun c_6 => ?_)
          · exact J_8 _ (by first | rfl | simp only [if_neg c_6])
          · refine r_aload_n C dX1_etch_40 3 rfl ?_
            refine r_get C clX1 dX1_etch_41 0 0 rfl (by decide) q_55 rfl ?_
            refine r_iload_n C dX1_etch_44 1 rfl ?_
            refine r_bipush C dX1_etch_45 (v := 99) (by decide) ?_
            refine r_iload C dX1_etch_47 0 rfl ?_
            refine r_aload_n C dX1_etch_49 3 rfl ?_
            refine r_get C clX1 dX1_etch_50 0 5 rfl (by decide) q_66 rfl ?_
            refine r_iload_n C dX1_etch_53 4 rfl ?_
            refine r_imul C dX1_etch_54 ?_
            refine r_iadd C dX1_etch_55 ?_
            refine r_mmin C dX1_etch_56 q_182 (nle rfl) (nle rfl) (nle rfl) (nle rfl) ?_
            refine r_iast C dX1_etch_59 1 rfl i rfl (by omega) (by decide) (ws2 := [(h0, .inr (1, [.ref a1, .ref a2, .ref a3, .int (nI nl), .int va, .int sg, .int (nI pr), .int sn, .int (if mi ≤ 0 then wk else 1)])), (a1, .inl (cI, 10, .inl (upd f i (if (f i) + (sg * mi) < 99 then (f i) + (sg * mi) else 99))))]) rfl ?_
            exact J_8 _ (by first | rfl | simp only [if_pos c_6])
    exact L_13 (nl + 1) 0 (by omega) (by omega) _ _ rfl rfl 
  refine r_if_le C dX1_etch_1 (tgt := 9) (by decide) (fun c_1 => ?_) (fun c_1 => ?_)
  · exact J_3 _ (by first | rfl | simp only [if_pos c_1])
  · refine r_aload_n C dX1_etch_4 0 rfl ?_
    refine r_iconst C dX1_etch_5 (v := 1) (by decide) ?_
    refine r_put C clX1 dX1_etch_6 0 8 rfl (by decide) q_72 rfl (by decide) rfl (nle rfl) (ws2 := [(h0, .inr (1, [.ref a1, .ref a2, .ref a3, .int (nI nl), .int va, .int sg, .int (nI pr), .int sn, .int 1])), (a1, .inl (cI, 10, .inl d))]) rfl ?_
    exact J_3 _ (by first | rfl | simp only [if_neg c_1])
set_option maxHeartbeats 4000000 in
set_option maxRecDepth 100000 in
/-- rubDown(line, amount) -/
theorem c_X1_rubDown (l : Launch) (D : va_G) (cI cR : ClassId) (h0 : Nat) (a1 : Nat) (a2 : Nat) (a3 : Nat) (d : Nat → Int32) (nl : Nat) (va : Int32) (sg : Int32) (pr : Nat) (sn : Int32) (wk : Int32) (li : Nat) (am : Int32) (hli : li < 10) : Ctr l D cI cR yX1_rubDown cX1_rubDown 3 ((some .int)) ({ frames := 1, cells := 0, slots := 0, locals := 26 }) [.ref h0, .int (nI li), .int am] [(h0, .inr (1, [.ref a1, .ref a2, .ref a3, .int (nI nl), .int va, .int sg, .int (nI pr), .int sn, .int wk])), (a1, .inl (cI, 10, .inl d))] (rP (some (.int (if 0 < d li - am then d li - am else 0))) [(h0, .inr (1, [.ref a1, .ref a2, .ref a3, .int (nI nl), .int va, .int sg, .int (nI pr), .int sn, .int 1])), (a1, .inl (cI, 10, .inl (upd d li (if 0 < d li - am then d li - am else 0))))]) := by
  refine ctr_of (lv0 := [(0, .ref h0), (1, .int (nI li)), (2, .int am)]) (by decide) (nle rfl) rfl (fun G C E => ?_)
  refine r_aload_n C dX1_rubDown_0 0 rfl ?_
  refine r_get C clX1 dX1_rubDown_1 0 0 rfl (by decide) q_55 rfl ?_
  refine r_iload_n C dX1_rubDown_4 1 rfl ?_
  refine r_iconst C dX1_rubDown_5 (v := 0) (by decide) ?_
  refine r_aload_n C dX1_rubDown_6 0 rfl ?_
  refine r_get C clX1 dX1_rubDown_7 0 0 rfl (by decide) q_55 rfl ?_
  refine r_iload_n C dX1_rubDown_10 1 rfl ?_
  refine r_iald C dX1_rubDown_11 1 rfl li rfl (by omega) (by decide) ?_
  refine r_iload_n C dX1_rubDown_12 2 rfl ?_
  refine r_isub C dX1_rubDown_13 ?_
  refine r_mmax C dX1_rubDown_14 q_217 (nle rfl) (nle rfl) (nle rfl) (nle rfl) ?_
  refine r_iast C dX1_rubDown_17 1 rfl li rfl (by omega) (by decide) (ws2 := [(h0, .inr (1, [.ref a1, .ref a2, .ref a3, .int (nI nl), .int va, .int sg, .int (nI pr), .int sn, .int wk])), (a1, .inl (cI, 10, .inl (upd d li (if 0 < (d li) - am then (d li) - am else 0))))]) rfl ?_
  refine r_aload_n C dX1_rubDown_18 0 rfl ?_
  refine r_iconst C dX1_rubDown_19 (v := 1) (by decide) ?_
  refine r_put C clX1 dX1_rubDown_20 0 8 rfl (by decide) q_72 rfl (by decide) rfl (nle rfl) (ws2 := [(h0, .inr (1, [.ref a1, .ref a2, .ref a3, .int (nI nl), .int va, .int sg, .int (nI pr), .int sn, .int 1])), (a1, .inl (cI, 10, .inl (upd d li (if 0 < (d li) - am then (d li) - am else 0))))]) rfl ?_
  refine r_aload_n C dX1_rubDown_23 0 rfl ?_
  refine r_get C clX1 dX1_rubDown_24 0 0 rfl (by decide) q_55 rfl ?_
  refine r_iload_n C dX1_rubDown_27 1 rfl ?_
  refine r_iald C dX1_rubDown_28 1 rfl li rfl (by omega) (by decide) ?_
  refine r_top (b := (if 0 < (d li) - am then (d li) - am else 0)) pk_us ?_
  exact r_iret C E dX1_rubDown_29 (nle rfl) (nle rfl) ⟨rfl, rfl⟩
set_option maxHeartbeats 4000000 in
set_option maxRecDepth 100000 in
/-- depthSum() -/
theorem c_X1_depthSum (l : Launch) (D : va_G) (cI cR : ClassId) (h0 : Nat) (a1 : Nat) (a2 : Nat) (a3 : Nat) (d : Nat → Int32) (nl : Nat) (va : Int32) (sg : Int32) (pr : Nat) (sn : Int32) (wk : Int32) (hnl : nl ≤ 10) : Ctr l D cI cR yX1_depthSum cX1_depthSum 3 ((some .int)) ({ frames := 0, cells := 0, slots := 0, locals := 0 }) [.ref h0] [(h0, .inr (1, [.ref a1, .ref a2, .ref a3, .int (nI nl), .int va, .int sg, .int (nI pr), .int sn, .int wk])), (a1, .inl (cI, 10, .inl d))] (rP (some (.int (dsF d nl))) [(h0, .inr (1, [.ref a1, .ref a2, .ref a3, .int (nI nl), .int va, .int sg, .int (nI pr), .int sn, .int wk])), (a1, .inl (cI, 10, .inl d))]) := by
  refine ctr_of (lv0 := [(0, .ref h0)]) (by decide) (nle rfl) rfl (fun G C E => ?_)
  refine r_iconst C dX1_depthSum_0 (v := 0) (by decide) ?_
  refine r_istore_n C dX1_depthSum_1 (lv2 := [(1, .int 0), (0, .ref h0)]) (by decide) rfl ?_
  refine r_iconst C dX1_depthSum_2 (v := 0) (by decide) ?_
  refine r_istore_n C dX1_depthSum_3 (lv2 := [(2, .int 0), (1, .int 0), (0, .ref h0)]) (by decide) rfl ?_
  have L_4 : ∀ (z i : Nat), i ≤ nl → nl < i + z → ∀ (sm : Int32), sm = dsF d i → Wr G 0 0 4 [(2, .int (nI i)), (1, .int sm), (0, .ref h0)] [] [(h0, .inr (1, [.ref a1, .ref a2, .ref a3, .int (nI nl), .int va, .int sg, .int (nI pr), .int sn, .int wk])), (a1, .inl (cI, 10, .inl d))] := by
    intro z
    induction z with
    | zero => intro i h1 h2; exact absurd h2 (by omega)
    | succ z ih_4 =>
      intro i hi_4 hz_4 sm e_sm
      refine r_iload_n C dX1_depthSum_4 0 rfl ?_
      refine r_aload_n C dX1_depthSum_5 2 rfl ?_
      refine r_get C clX1 dX1_depthSum_6 0 3 rfl (by decide) q_61 rfl ?_
      refine r_icmp_ge C dX1_depthSum_9 (tgt := 27) (by decide) (fun c_1 => ?_) (fun c_1 => ?_)
      · have n_2 := (nI_leI (a := nl) (b := i) (by omega) (by omega)).mp c_1
        have ex_4 : nl = i := by omega
        subst ex_4
        subst e_sm
        refine r_iload_n C dX1_depthSum_27 1 rfl ?_
        exact r_iret C E dX1_depthSum_28 (nle rfl) (nle rfl) ⟨rfl, rfl⟩
      · have n_2 := mt (nI_leI (a := nl) (b := i) (by omega) (by omega)).mpr c_1
        refine r_iload_n C dX1_depthSum_12 1 rfl ?_
        refine r_aload_n C dX1_depthSum_13 2 rfl ?_
        refine r_get C clX1 dX1_depthSum_14 0 0 rfl (by decide) q_55 rfl ?_
        refine r_iload_n C dX1_depthSum_17 0 rfl ?_
        refine r_iald C dX1_depthSum_18 1 rfl i rfl (by omega) (by decide) ?_
        refine r_iadd C dX1_depthSum_19 ?_
        refine r_istore_n C dX1_depthSum_20 (lv2 := [(1, .int (sm + (d i))), (2, .int (nI i)), (0, .ref h0)]) (by decide) rfl ?_
        refine r_iinc C dX1_depthSum_21 1 rfl (v := nI (i + 1)) (nI_1 _) (by decide) (lv2 := [(2, .int (nI (i + 1))), (1, .int (sm + (d i))), (0, .ref h0)]) rfl ?_
        refine r_goto C dX1_depthSum_24 (tgt := 4) (by decide) ?_
        exact ih_4 (i + 1) (by omega) (by omega) _ (by subst e_sm; rfl) 
  exact L_4 (nl + 1) 0 (by omega) (by omega) _ rfl 
set_option maxHeartbeats 4000000 in
set_option maxRecDepth 100000 in
/-- printedTone(print, line) -/
theorem c_X1_printedTone (l : Launch) (D : va_G) (cI cR : ClassId) (h0 : Nat) (a1 : Nat) (a2 : Nat) (a3 : Nat) (tn : Nat → Int32) (nl : Nat) (va : Int32) (sg : Int32) (pr : Nat) (sn : Int32) (wk : Int32) (pq : Nat) (li : Nat) (hpq : pq < 12) (hli : li < 10) : Ctr l D cI cR yX1_printedTone cX1_printedTone 3 ((some .int)) ({ frames := 0, cells := 0, slots := 0, locals := 0 }) [.ref h0, .int (nI pq), .int (nI li)] [(h0, .inr (1, [.ref a1, .ref a2, .ref a3, .int (nI nl), .int va, .int sg, .int (nI pr), .int sn, .int wk])), (a3, .inl (cI, 120, .inl tn))] (rP (some (.int (tn (pq * 10 + li)))) [(h0, .inr (1, [.ref a1, .ref a2, .ref a3, .int (nI nl), .int va, .int sg, .int (nI pr), .int sn, .int wk])), (a3, .inl (cI, 120, .inl tn))]) := by
  refine ctr_of (lv0 := [(0, .ref h0), (1, .int (nI pq)), (2, .int (nI li))]) (by decide) (nle rfl) rfl (fun G C E => ?_)
  refine r_aload_n C dX1_printedTone_0 0 rfl ?_
  refine r_get C clX1 dX1_printedTone_1 0 2 rfl (by decide) q_60 rfl ?_
  refine r_iload_n C dX1_printedTone_4 1 rfl ?_
  refine r_bipush C dX1_printedTone_5 (v := 10) (by decide) ?_
  refine r_imul C dX1_printedTone_7 ?_
  refine r_top (b := nI (pq * 10)) (nM rfl rfl) ?_
  refine r_iload_n C dX1_printedTone_8 2 rfl ?_
  refine r_iadd C dX1_printedTone_9 ?_
  refine r_top (b := nI (pq * 10 + li)) (nA rfl rfl) ?_
  refine r_iald C dX1_printedTone_10 1 rfl (pq * 10 + li) rfl (by omega) (by decide) ?_
  exact r_iret C E dX1_printedTone_11 (nle rfl) (nle rfl) ⟨rfl, rfl⟩
set_option maxHeartbeats 4000000 in
set_option maxRecDepth 100000 in
/-- nowhereDarker(i, j) -/
theorem c_X1_nowhereDarker (l : Launch) (D : va_G) (cI cR : ClassId) (h0 : Nat) (a1 : Nat) (a2 : Nat) (a3 : Nat) (tn : Nat → Int32) (nl : Nat) (va : Int32) (sg : Int32) (pr : Nat) (sn : Int32) (wk : Int32) (ii : Nat) (jj : Nat) (hnl : nl ≤ 10) (hii : ii < 12) (hjj : jj < 12) : Ctr l D cI cR yX1_nowhereDarker cX1_nowhereDarker 4 ((some .boolean)) ({ frames := 1, cells := 0, slots := 0, locals := 22 }) [.ref h0, .int (nI ii), .int (nI jj)] [(h0, .inr (1, [.ref a1, .ref a2, .ref a3, .int (nI nl), .int va, .int sg, .int (nI pr), .int sn, .int wk])), (a3, .inl (cI, 120, .inl tn))] (rP (some (.int (ndF tn ii jj nl))) [(h0, .inr (1, [.ref a1, .ref a2, .ref a3, .int (nI nl), .int va, .int sg, .int (nI pr), .int sn, .int wk])), (a3, .inl (cI, 120, .inl tn))]) := by
  refine ctr_of (lv0 := [(0, .ref h0), (1, .int (nI ii)), (2, .int (nI jj))]) (by decide) (nle rfl) rfl (fun G C E => ?_)
  refine r_iconst C dX1_nowhereDarker_0 (v := 0) (by decide) ?_
  refine r_istore_n C dX1_nowhereDarker_1 (lv2 := [(3, .int 0), (0, .ref h0), (1, .int (nI ii)), (2, .int (nI jj))]) (by decide) rfl ?_
  have L_2 : ∀ (z i : Nat), i ≤ nl → nl < i + z → (∀ k, k < i → tn (ii * 10 + k) ≤ tn (jj * 10 + k)) → Wr G 0 0 2 [(3, .int (nI i)), (0, .ref h0), (1, .int (nI ii)), (2, .int (nI jj))] [] [(h0, .inr (1, [.ref a1, .ref a2, .ref a3, .int (nI nl), .int va, .int sg, .int (nI pr), .int sn, .int wk])), (a3, .inl (cI, 120, .inl tn))] := by
    intro z
    induction z with
    | zero => intro i h1 h2; exact absurd h2 (by omega)
    | succ z ih_2 =>
      intro i hi_2 hz_2 hnd
      refine r_iload_n C dX1_nowhereDarker_2 0 rfl ?_
      refine r_aload_n C dX1_nowhereDarker_3 1 rfl ?_
      refine r_get C clX1 dX1_nowhereDarker_4 0 3 rfl (by decide) q_61 rfl ?_
      refine r_icmp_ge C dX1_nowhereDarker_7 (tgt := 33) (by decide) (fun c_1 => ?_) (fun c_1 => ?_)
      · have n_2 := (nI_leI (a := nl) (b := i) (by omega) (by omega)).mp c_1
        have ex_2 : nl = i := by omega
        subst ex_2
        refine r_iconst C dX1_nowhereDarker_33 (v := 1) (by decide) ?_
        exact r_zret C E dX1_nowhereDarker_34 (nle rfl) (nle rfl) (by decide) ⟨by rw [nd_1 tn hnd], rfl⟩
      · have n_2 := mt (nI_leI (a := nl) (b := i) (by omega) (by omega)).mpr c_1
        refine r_aload_n C dX1_nowhereDarker_10 1 rfl ?_
        refine r_iload_n C dX1_nowhereDarker_11 2 rfl ?_
        refine r_iload_n C dX1_nowhereDarker_12 0 rfl ?_
        refine r_callV C (As := [.int (nI ii), .int (nI i)]) (rest := []) (wr := []) (c_X1_printedTone l D cI cR h0 a1 a2 a3 tn nl va sg pr sn wk ii i (by omega) (by omega)) k_X1_printedTone rfl dX1_nowhereDarker_13 q_284 q_273 q_274 ⟨nle rfl, nle rfl⟩ [0, 1] [] rfl rfl rfl rfl (by decide) 0 rfl rfl rfl (nle rfl) ⟨nle rfl, nle rfl⟩ (r_fin (st2 := [.int (tn (ii * 10 + i))]) (ws2 := [(h0, .inr (1, [.ref a1, .ref a2, .ref a3, .int (nI nl), .int va, .int sg, .int (nI pr), .int sn, .int wk])), (a3, .inl (cI, 120, .inl tn))]) rfl rfl ?_)
        refine r_aload_n C dX1_nowhereDarker_16 1 rfl ?_
        refine r_iload_n C dX1_nowhereDarker_17 3 rfl ?_
        refine r_iload_n C dX1_nowhereDarker_18 0 rfl ?_
        refine r_callV C (As := [.int (nI jj), .int (nI i)]) (rest := [.int (tn (ii * 10 + i))]) (wr := []) (c_X1_printedTone l D cI cR h0 a1 a2 a3 tn nl va sg pr sn wk jj i (by omega) (by omega)) k_X1_printedTone rfl dX1_nowhereDarker_19 q_284 q_273 q_274 ⟨nle rfl, nle rfl⟩ [0, 1] [] rfl rfl rfl rfl (by decide) 0 rfl rfl rfl (nle rfl) ⟨nle rfl, nle rfl⟩ (r_fin (st2 := [.int (tn (jj * 10 + i)), .int (tn (ii * 10 + i))]) (ws2 := [(h0, .inr (1, [.ref a1, .ref a2, .ref a3, .int (nI nl), .int va, .int sg, .int (nI pr), .int sn, .int wk])), (a3, .inl (cI, 120, .inl tn))]) rfl rfl ?_)
        refine r_icmp_le C dX1_nowhereDarker_22 (tgt := 27) (by decide) (fun hle => ?_) (fun hle => ?_)
        · refine r_iinc C dX1_nowhereDarker_27 0 rfl (v := nI (i + 1)) (nI_1 _) (by decide) (lv2 := [(3, .int (nI (i + 1))), (0, .ref h0), (1, .int (nI ii)), (2, .int (nI jj))]) rfl ?_
          refine r_goto C dX1_nowhereDarker_30 (tgt := 2) (by decide) ?_
          exact ih_2 (i + 1) (by omega) (by omega)   (lt_s hnd hle)
        · refine r_iconst C dX1_nowhereDarker_25 (v := 0) (by decide) ?_
          exact r_zret C E dX1_nowhereDarker_26 (nle rfl) (nle rfl) (by decide) ⟨by rw [nd_0 tn (show i < nl by omega) hle], rfl⟩
  exact L_2 (nl + 1) 0 (by omega) (by omega)   (fun k h => absurd h (Nat.not_lt_zero k))
set_option maxHeartbeats 4000000 in
set_option maxRecDepth 100000 in
/-- placesAmongLikes(prints, print) -/
theorem c_X1_placesAmongLikes (l : Launch) (D : va_G) (cI cR : ClassId) (h0 : Nat) (a1 : Nat) (a2 : Nat) (a3 : Nat) (tn : Nat → Int32) (nl : Nat) (va : Int32) (sg : Int32) (pr : Nat) (sn : Int32) (wk : Int32) (ps : Int32) (pq : Nat) (hnl : nl ≤ 10) (hpq : pq < 12) : Ctr l D cI cR yX1_placesAmongLikes cX1_placesAmongLikes 7 ((some .int)) ({ frames := 2, cells := 0, slots := 0, locals := 45 }) [.ref h0, .int ps, .int (nI pq)] [(h0, .inr (1, [.ref a1, .ref a2, .ref a3, .int (nI nl), .int va, .int sg, .int (nI pr), .int sn, .int wk])), (a3, .inl (cI, 120, .inl tn))] (rP (some (.int (plF tn nl ps pq))) [(h0, .inr (1, [.ref a1, .ref a2, .ref a3, .int (nI nl), .int va, .int sg, .int (nI pr), .int sn, .int wk])), (a3, .inl (cI, 120, .inl tn))]) := by
  refine ctr_of (lv0 := [(0, .ref h0), (1, .int ps), (2, .int (nI pq))]) (by decide) (nle rfl) rfl (fun G C E => ?_)
  refine r_iconst C dX1_placesAmongLikes_0 (v := 1) (by decide) ?_
  refine r_istore_n C dX1_placesAmongLikes_1 (lv2 := [(3, .int 1), (0, .ref h0), (1, .int ps), (2, .int (nI pq))]) (by decide) rfl ?_
  refine r_iconst C dX1_placesAmongLikes_2 (v := 0) (by decide) ?_
  refine r_istore C dX1_placesAmongLikes_3 (lv2 := [(4, .int 0), (3, .int 1), (0, .ref h0), (1, .int ps), (2, .int (nI pq))]) (by decide) rfl ?_
  have L_5 : ∀ (z i : Nat), i ≤ pq → pq < i + z → ∀ (cn : Int32), cn = plV tn nl ps pq i → plX tn nl ps pq i = false → Wr G 0 0 5 [(4, .int (nI i)), (3, .int cn), (0, .ref h0), (1, .int ps), (2, .int (nI pq))] [] [(h0, .inr (1, [.ref a1, .ref a2, .ref a3, .int (nI nl), .int va, .int sg, .int (nI pr), .int sn, .int wk])), (a3, .inl (cI, 120, .inl tn))] := by
    intro z
    induction z with
    | zero => intro i h1 h2; exact absurd h2 (by omega)
    | succ z ih_5 =>
      intro i hi_5 hz_5 cn e_cn hdx
      refine r_iload C dX1_placesAmongLikes_5 0 rfl ?_
      refine r_iload_n C dX1_placesAmongLikes_7 4 rfl ?_
      refine r_icmp_ge C dX1_placesAmongLikes_8 (tgt := 69) (by decide) (fun c_1 => ?_) (fun c_1 => ?_)
      · have n_2 := (nI_leI (a := pq) (b := i) (by omega) (by omega)).mp c_1
        have ex_5 : pq = i := by omega
        subst ex_5
        subst e_cn
        refine r_iload_n C dX1_placesAmongLikes_69 1 rfl ?_
        exact r_iret C E dX1_placesAmongLikes_70 (nle rfl) (nle rfl) ⟨by rw [pl_live hdx], rfl⟩
      · have n_2 := mt (nI_leI (a := pq) (b := i) (by omega) (by omega)).mpr c_1
        refine r_iload_n C dX1_placesAmongLikes_11 3 rfl ?_
        refine r_iload C dX1_placesAmongLikes_12 0 rfl ?_
        refine r_callSN C (As := [.int ps, .int (nI i)]) (rest := []) (wr := [(h0, .inr (1, [.ref a1, .ref a2, .ref a3, .int (nI nl), .int va, .int sg, .int (nI pr), .int sn, .int wk])), (a3, .inl (cI, 120, .inl tn))]) (c_X2_contains l D cI cR ps (nI i) ) k_X2_contains rfl dX1_placesAmongLikes_14 "EtchedPlate" (fun U h => h.2.2.1) q_180 ⟨nle rfl, nle rfl⟩ [] [0, 1] rfl rfl rfl rfl (by decide) rfl (nle rfl) ⟨nle rfl, nle rfl⟩ (r_fin (st2 := [.int (ctF ps (nI i))]) (ws2 := [(h0, .inr (1, [.ref a1, .ref a2, .ref a3, .int (nI nl), .int va, .int sg, .int (nI pr), .int sn, .int wk])), (a3, .inl (cI, 120, .inl tn))]) rfl rfl ?_)
        refine r_if_eq C dX1_placesAmongLikes_17 (tgt := 63) (by decide) (fun hct => ?_) (fun hct => ?_)
        · refine r_iinc C dX1_placesAmongLikes_63 0 rfl (v := nI (i + 1)) (nI_1 _) (by decide) (lv2 := [(4, .int (nI (i + 1))), (3, .int cn), (0, .ref h0), (1, .int ps), (2, .int (nI pq))]) rfl ?_
          refine r_goto C dX1_placesAmongLikes_66 (tgt := 5) (by decide) ?_
          exact ih_5 (i + 1) (by omega) (by omega) _ (by subst e_cn; simp_all [plV]) (by simp_all [plX])
        · refine r_aload_n C dX1_placesAmongLikes_20 2 rfl ?_
          refine r_iload C dX1_placesAmongLikes_21 0 rfl ?_
          refine r_iload_n C dX1_placesAmongLikes_23 4 rfl ?_
          refine r_callV C (As := [.int (nI i), .int (nI pq)]) (rest := []) (wr := []) (c_X1_nowhereDarker l D cI cR h0 a1 a2 a3 tn nl va sg pr sn wk i pq (by omega) (by omega) (by omega)) k_X1_nowhereDarker rfl dX1_placesAmongLikes_24 q_297 q_281 q_282 ⟨nle rfl, nle rfl⟩ [0, 1] [] rfl rfl rfl rfl (by decide) 0 rfl rfl rfl (nle rfl) ⟨nle rfl, nle rfl⟩ (r_fin (st2 := [.int (ndF tn i pq nl)]) (ws2 := [(h0, .inr (1, [.ref a1, .ref a2, .ref a3, .int (nI nl), .int va, .int sg, .int (nI pr), .int sn, .int wk])), (a3, .inl (cI, 120, .inl tn))]) rfl rfl ?_)
          refine r_istore C dX1_placesAmongLikes_27 (lv2 := [(5, .int (ndF tn i pq nl)), (4, .int (nI i)), (3, .int cn), (0, .ref h0), (1, .int ps), (2, .int (nI pq))]) (by decide) rfl ?_
          refine r_aload_n C dX1_placesAmongLikes_29 3 rfl ?_
          refine r_iload_n C dX1_placesAmongLikes_30 5 rfl ?_
          refine r_iload C dX1_placesAmongLikes_31 1 rfl ?_
          refine r_callV C (As := [.int (nI pq), .int (nI i)]) (rest := []) (wr := []) (c_X1_nowhereDarker l D cI cR h0 a1 a2 a3 tn nl va sg pr sn wk pq i (by omega) (by omega) (by omega)) k_X1_nowhereDarker rfl dX1_placesAmongLikes_33 q_297 q_281 q_282 ⟨nle rfl, nle rfl⟩ [0, 1] [] rfl rfl rfl rfl (by decide) 0 rfl rfl rfl (nle rfl) ⟨nle rfl, nle rfl⟩ (r_fin (st2 := [.int (ndF tn pq i nl)]) (ws2 := [(h0, .inr (1, [.ref a1, .ref a2, .ref a3, .int (nI nl), .int va, .int sg, .int (nI pr), .int sn, .int wk])), (a3, .inl (cI, 120, .inl tn))]) rfl rfl ?_)
          refine r_istore C dX1_placesAmongLikes_36 (lv2 := [(6, .int (ndF tn pq i nl)), (5, .int (ndF tn i pq nl)), (4, .int (nI i)), (3, .int cn), (0, .ref h0), (1, .int ps), (2, .int (nI pq))]) (by decide) rfl ?_
          refine r_iload C dX1_placesAmongLikes_38 1 rfl ?_
          refine r_if_ne C dX1_placesAmongLikes_40 (tgt := 50) (by decide) (fun hbe => ?_) (fun hbe => ?_)
          · refine r_iload C dX1_placesAmongLikes_50 1 rfl ?_
            have J_6 : ∀ (v_5 : Int32), v_5 = (if (ndF tn pq i nl) = 0 then cn else (cn + 1)) → Wr G 0 0 63 [(6, .int (ndF tn pq i nl)), (5, .int (ndF tn i pq nl)), (4, .int (nI i)), (3, .int v_5), (0, .ref h0), (1, .int ps), (2, .int (nI pq))] [] [(h0, .inr (1, [.ref a1, .ref a2, .ref a3, .int (nI nl), .int va, .int sg, .int (nI pr), .int sn, .int wk])), (a3, .inl (cI, 120, .inl tn))] := by
              intro v_5 ev_5
              subst ev_5
              refine r_iinc C dX1_placesAmongLikes_63 2 rfl (v := nI (i + 1)) (nI_1 _) (by decide) (lv2 := [(4, .int (nI (i + 1))), (6, .int (ndF tn pq i nl)), (5, .int (ndF tn i pq nl)), (3, .int (if (ndF tn pq i nl) = 0 then cn else (cn + 1))), (0, .ref h0), (1, .int ps), (2, .int (nI pq))]) rfl ?_
              refine r_goto C dX1_placesAmongLikes_66 (tgt := 5) (by decide) ?_
              refine r_lv [0, 3, 4, 5, 6] (lv2 := [(4, .int (nI (i + 1))), (3, .int (if (ndF tn pq i nl) = 0 then cn else (cn + 1))), (0, .ref h0), (1, .int ps), (2, .int (nI pq))]) rfl ?_
              exact ih_5 (i + 1) (by omega) (by omega) _ (by subst e_cn; simp_all [plV]) (by simp_all [plX])
            refine r_if_eq C dX1_placesAmongLikes_52 (tgt := 63) (by decide) (fun c_3 => ?_) (fun c_3 => ?_)
            · exact absurd c_3 hbe
            · refine r_iload C dX1_placesAmongLikes_55 0 rfl ?_
              refine r_if_eq C dX1_placesAmongLikes_57 (tgt := 63) (by decide) (fun c_4 => ?_) (fun c_4 => ?_)
              · exact J_6 _ (by first | rfl | simp only [if_neg c_3, if_pos c_4])
              · refine r_iinc C dX1_placesAmongLikes_60 3 rfl (v := cn + 1) rfl (by decide) (lv2 := [(3, .int (cn + 1)), (6, .int (ndF tn pq i nl)), (5, .int (ndF tn i pq nl)), (4, .int (nI i)), (0, .ref h0), (1, .int ps), (2, .int (nI pq))]) rfl ?_
                refine r_lv [1, 2, 3, 0, 4, 5, 6] (lv2 := [(6, .int (ndF tn pq i nl)), (5, .int (ndF tn i pq nl)), (4, .int (nI i)), (3, .int (cn + 1)), (0, .ref h0), (1, .int ps), (2, .int (nI pq))]) rfl ?_
                exact J_6 _ (by first | rfl | simp only [if_neg c_3, if_neg c_4])
          · refine r_iload C dX1_placesAmongLikes_43 0 rfl ?_
            refine r_if_ne C dX1_placesAmongLikes_45 (tgt := 50) (by decide) (fun haf => ?_) (fun haf => ?_)
            · refine r_iload C dX1_placesAmongLikes_50 1 rfl ?_
              refine r_if_eq C dX1_placesAmongLikes_52 (tgt := 63) (by decide) (fun c_7 => ?_) (fun c_7 => ?_)
              · refine r_iinc C dX1_placesAmongLikes_63 2 rfl (v := nI (i + 1)) (nI_1 _) (by decide) (lv2 := [(4, .int (nI (i + 1))), (6, .int (ndF tn pq i nl)), (5, .int (ndF tn i pq nl)), (3, .int cn), (0, .ref h0), (1, .int ps), (2, .int (nI pq))]) rfl ?_
                refine r_goto C dX1_placesAmongLikes_66 (tgt := 5) (by decide) ?_
                refine r_lv [0, 3, 4, 5, 6] (lv2 := [(4, .int (nI (i + 1))), (3, .int cn), (0, .ref h0), (1, .int ps), (2, .int (nI pq))]) rfl ?_
                exact ih_5 (i + 1) (by omega) (by omega) _ (by subst e_cn; simp_all [plV]) (by simp_all [plX])
              · exact absurd hbe c_7
            · refine r_iconst C dX1_placesAmongLikes_48 (v := 0) (by decide) ?_
              exact r_iret C E dX1_placesAmongLikes_49 (nle rfl) (nle rfl) ⟨by rw [pl_dead (show i < pq by omega) hct hbe haf], rfl⟩
  exact L_5 (pq + 1) 0 (by omega) (by omega) _ rfl rfl
set_option maxHeartbeats 4000000 in
set_option maxRecDepth 100000 in
/-- countOrders(prints) -/
theorem c_X1_countOrders (l : Launch) (D : va_G) (cI cR : ClassId) (h0 : Nat) (a1 : Nat) (a2 : Nat) (a3 : Nat) (tn : Nat → Int32) (nl : Nat) (va : Int32) (sg : Int32) (pr : Nat) (sn : Int32) (wk : Int32) (ps : Int32) (hnl : nl ≤ 10) (hpr : pr ≤ 12) : Ctr l D cI cR yX1_countOrders cX1_countOrders 4 ((some .int)) ({ frames := 3, cells := 0, slots := 0, locals := 71 }) [.ref h0, .int ps] [(h0, .inr (1, [.ref a1, .ref a2, .ref a3, .int (nI nl), .int va, .int sg, .int (nI pr), .int sn, .int wk])), (a3, .inl (cI, 120, .inl tn))] (rP (some (.int (coF tn nl ps pr))) [(h0, .inr (1, [.ref a1, .ref a2, .ref a3, .int (nI nl), .int va, .int sg, .int (nI pr), .int sn, .int wk])), (a3, .inl (cI, 120, .inl tn))]) := by
  refine ctr_of (lv0 := [(0, .ref h0), (1, .int ps)]) (by decide) (nle rfl) rfl (fun G C E => ?_)
  refine r_iconst C dX1_countOrders_0 (v := 1) (by decide) ?_
  refine r_istore_n C dX1_countOrders_1 (lv2 := [(2, .int 1), (0, .ref h0), (1, .int ps)]) (by decide) rfl ?_
  refine r_iconst C dX1_countOrders_2 (v := 0) (by decide) ?_
  refine r_istore_n C dX1_countOrders_3 (lv2 := [(3, .int 0), (2, .int 1), (0, .ref h0), (1, .int ps)]) (by decide) rfl ?_
  have L_4 : ∀ (z i : Nat), i ≤ pr → pr < i + z → ∀ (cn : Int32), cn = coF tn nl ps i → Wr G 0 0 4 [(3, .int (nI i)), (2, .int cn), (0, .ref h0), (1, .int ps)] [] [(h0, .inr (1, [.ref a1, .ref a2, .ref a3, .int (nI nl), .int va, .int sg, .int (nI pr), .int sn, .int wk])), (a3, .inl (cI, 120, .inl tn))] := by
    intro z
    induction z with
    | zero => intro i h1 h2; exact absurd h2 (by omega)
    | succ z ih_4 =>
      intro i hi_4 hz_4 cn e_cn
      refine r_iload_n C dX1_countOrders_4 0 rfl ?_
      refine r_aload_n C dX1_countOrders_5 2 rfl ?_
      refine r_get C clX1 dX1_countOrders_6 0 6 rfl (by decide) q_69 rfl ?_
      refine r_icmp_ge C dX1_countOrders_9 (tgt := 35) (by decide) (fun c_1 => ?_) (fun c_1 => ?_)
      · have n_2 := (nI_leI (a := pr) (b := i) (by omega) (by omega)).mp c_1
        have ex_4 : pr = i := by omega
        subst ex_4
        subst e_cn
        refine r_iload_n C dX1_countOrders_35 1 rfl ?_
        exact r_iret C E dX1_countOrders_36 (nle rfl) (nle rfl) ⟨rfl, rfl⟩
      · have n_2 := mt (nI_leI (a := pr) (b := i) (by omega) (by omega)).mpr c_1
        refine r_iload_n C dX1_countOrders_12 3 rfl ?_
        refine r_iload_n C dX1_countOrders_13 0 rfl ?_
        refine r_callSN C (As := [.int ps, .int (nI i)]) (rest := []) (wr := [(h0, .inr (1, [.ref a1, .ref a2, .ref a3, .int (nI nl), .int va, .int sg, .int (nI pr), .int sn, .int wk])), (a3, .inl (cI, 120, .inl tn))]) (c_X2_contains l D cI cR ps (nI i) ) k_X2_contains rfl dX1_countOrders_14 "EtchedPlate" (fun U h => h.2.2.1) q_180 ⟨nle rfl, nle rfl⟩ [] [0, 1] rfl rfl rfl rfl (by decide) rfl (nle rfl) ⟨nle rfl, nle rfl⟩ (r_fin (st2 := [.int (ctF ps (nI i))]) (ws2 := [(h0, .inr (1, [.ref a1, .ref a2, .ref a3, .int (nI nl), .int va, .int sg, .int (nI pr), .int sn, .int wk])), (a3, .inl (cI, 120, .inl tn))]) rfl rfl ?_)
        have J_5 : ∀ (v_4 : Int32), v_4 = (if (ctF ps (nI i)) = 0 then cn else (cn * (plF tn nl ps i))) → Wr G 0 0 29 [(3, .int (nI i)), (2, .int v_4), (0, .ref h0), (1, .int ps)] [] [(h0, .inr (1, [.ref a1, .ref a2, .ref a3, .int (nI nl), .int va, .int sg, .int (nI pr), .int sn, .int wk])), (a3, .inl (cI, 120, .inl tn))] := by
          intro v_4 ev_4
          subst ev_4
          refine r_iinc C dX1_countOrders_29 0 rfl (v := nI (i + 1)) (nI_1 _) (by decide) (lv2 := [(3, .int (nI (i + 1))), (2, .int (if (ctF ps (nI i)) = 0 then cn else (cn * (plF tn nl ps i)))), (0, .ref h0), (1, .int ps)]) rfl ?_
          refine r_goto C dX1_countOrders_32 (tgt := 4) (by decide) ?_
          exact ih_4 (i + 1) (by omega) (by omega) _ (by subst e_cn; rfl) 
        refine r_if_eq C dX1_countOrders_17 (tgt := 29) (by decide) (fun c_3 => ?_) (fun c_3 => ?_)
        · exact J_5 _ (by first | rfl | simp only [if_pos c_3])
        · refine r_iload_n C dX1_countOrders_20 1 rfl ?_
          refine r_aload_n C dX1_countOrders_21 2 rfl ?_
          refine r_iload_n C dX1_countOrders_22 3 rfl ?_
          refine r_iload_n C dX1_countOrders_23 0 rfl ?_
          refine r_callV C (As := [.int ps, .int (nI i)]) (rest := [.int cn]) (wr := []) (c_X1_placesAmongLikes l D cI cR h0 a1 a2 a3 tn nl va sg pr sn wk ps i (by omega) (by omega)) k_X1_placesAmongLikes rfl dX1_countOrders_24 q_293 q_295 q_6 ⟨nle rfl, nle rfl⟩ [0, 1] [] rfl rfl rfl rfl (by decide) 0 rfl rfl rfl (nle rfl) ⟨nle rfl, nle rfl⟩ (r_fin (st2 := [.int (plF tn nl ps i), .int cn]) (ws2 := [(h0, .inr (1, [.ref a1, .ref a2, .ref a3, .int (nI nl), .int va, .int sg, .int (nI pr), .int sn, .int wk])), (a3, .inl (cI, 120, .inl tn))]) rfl rfl ?_)
          refine r_imul C dX1_countOrders_27 ?_
          refine r_istore_n C dX1_countOrders_28 (lv2 := [(2, .int (cn * (plF tn nl ps i))), (3, .int (nI i)), (0, .ref h0), (1, .int ps)]) (by decide) rfl ?_
          refine r_lv [1, 0, 2, 3] (lv2 := [(3, .int (nI i)), (2, .int (cn * (plF tn nl ps i))), (0, .ref h0), (1, .int ps)]) rfl ?_
          exact J_5 _ (by first | rfl | simp only [if_neg c_3])
  exact L_4 (pr + 1) 0 (by omega) (by omega) _ rfl 
set_option maxHeartbeats 4000000 in
set_option maxRecDepth 100000 in
/-- differenceFrom(print, tones) -/
theorem c_X1_differenceFrom (l : Launch) (D : va_G) (cI cR : ClassId) (h0 : Nat) (a1 : Nat) (a2 : Nat) (a3 : Nat) (tn : Nat → Int32) (nl : Nat) (va : Int32) (sg : Int32) (pr : Nat) (sn : Int32) (wk : Int32) (pq : Nat) (ag : Nat) (tg : Nat → Int32) (hnl : nl ≤ 10) (hpq : pq < 12) : Ctr l D cI cR yX1_differenceFrom cX1_differenceFrom 5 ((some .int)) ({ frames := 1, cells := 0, slots := 0, locals := 26 }) [.ref h0, .int (nI pq), .ref ag] [(h0, .inr (1, [.ref a1, .ref a2, .ref a3, .int (nI nl), .int va, .int sg, .int (nI pr), .int sn, .int wk])), (a3, .inl (cI, 120, .inl tn)), (ag, .inl (cI, 10, .inl tg))] (rP (some (.int (dfF tn tg pq nl))) [(h0, .inr (1, [.ref a1, .ref a2, .ref a3, .int (nI nl), .int va, .int sg, .int (nI pr), .int sn, .int wk])), (a3, .inl (cI, 120, .inl tn)), (ag, .inl (cI, 10, .inl tg))]) := by
  refine ctr_of (lv0 := [(0, .ref h0), (1, .int (nI pq)), (2, .ref ag)]) (by decide) (nle rfl) rfl (fun G C E => ?_)
  refine r_iconst C dX1_differenceFrom_0 (v := 0) (by decide) ?_
  refine r_istore_n C dX1_differenceFrom_1 (lv2 := [(3, .int 0), (0, .ref h0), (1, .int (nI pq)), (2, .ref ag)]) (by decide) rfl ?_
  refine r_iconst C dX1_differenceFrom_2 (v := 0) (by decide) ?_
  refine r_istore C dX1_differenceFrom_3 (lv2 := [(4, .int 0), (3, .int 0), (0, .ref h0), (1, .int (nI pq)), (2, .ref ag)]) (by decide) rfl ?_
  have L_5 : ∀ (z i : Nat), i ≤ nl → nl < i + z → ∀ (sm : Int32), sm = dfF tn tg pq i → Wr G 0 0 5 [(4, .int (nI i)), (3, .int sm), (0, .ref h0), (1, .int (nI pq)), (2, .ref ag)] [] [(h0, .inr (1, [.ref a1, .ref a2, .ref a3, .int (nI nl), .int va, .int sg, .int (nI pr), .int sn, .int wk])), (a3, .inl (cI, 120, .inl tn)), (ag, .inl (cI, 10, .inl tg))] := by
    intro z
    induction z with
    | zero => intro i h1 h2; exact absurd h2 (by omega)
    | succ z ih_5 =>
      intro i hi_5 hz_5 sm e_sm
      refine r_iload C dX1_differenceFrom_5 0 rfl ?_
      refine r_aload_n C dX1_differenceFrom_7 2 rfl ?_
      refine r_get C clX1 dX1_differenceFrom_8 0 3 rfl (by decide) q_61 rfl ?_
      refine r_icmp_ge C dX1_differenceFrom_11 (tgt := 38) (by decide) (fun c_1 => ?_) (fun c_1 => ?_)
      · have n_2 := (nI_leI (a := nl) (b := i) (by omega) (by omega)).mp c_1
        have ex_5 : nl = i := by omega
        subst ex_5
        subst e_sm
        refine r_iload_n C dX1_differenceFrom_38 1 rfl ?_
        exact r_iret C E dX1_differenceFrom_39 (nle rfl) (nle rfl) ⟨rfl, rfl⟩
      · have n_2 := mt (nI_leI (a := nl) (b := i) (by omega) (by omega)).mpr c_1
        refine r_iload_n C dX1_differenceFrom_14 1 rfl ?_
        refine r_aload_n C dX1_differenceFrom_15 2 rfl ?_
        refine r_iload_n C dX1_differenceFrom_16 3 rfl ?_
        refine r_iload C dX1_differenceFrom_17 0 rfl ?_
        refine r_callV C (As := [.int (nI pq), .int (nI i)]) (rest := [.int sm]) (wr := [(ag, .inl (cI, 10, .inl tg))]) (c_X1_printedTone l D cI cR h0 a1 a2 a3 tn nl va sg pr sn wk pq i (by omega) (by omega)) k_X1_printedTone rfl dX1_differenceFrom_19 q_284 q_273 q_274 ⟨nle rfl, nle rfl⟩ [0, 1] [2] rfl rfl rfl rfl (by decide) 0 rfl rfl rfl (nle rfl) ⟨nle rfl, nle rfl⟩ (r_fin (st2 := [.int (tn (pq * 10 + i)), .int sm]) (ws2 := [(ag, .inl (cI, 10, .inl tg)), (h0, .inr (1, [.ref a1, .ref a2, .ref a3, .int (nI nl), .int va, .int sg, .int (nI pr), .int sn, .int wk])), (a3, .inl (cI, 120, .inl tn))]) rfl rfl ?_)
        refine r_aload_n C dX1_differenceFrom_22 4 rfl ?_
        refine r_iload C dX1_differenceFrom_23 0 rfl ?_
        refine r_iald C dX1_differenceFrom_25 0 rfl i rfl (by omega) (by decide) ?_
        refine r_isub C dX1_differenceFrom_26 ?_
        refine r_mabs C dX1_differenceFrom_27 q_306 (nle rfl) (nle rfl) (nle rfl) (nle rfl) ?_
        refine r_iadd C dX1_differenceFrom_30 ?_
        refine r_istore_n C dX1_differenceFrom_31 (lv2 := [(3, .int (sm + (if 0 ≤ (tn (pq * 10 + i)) - (tg i) then ((tn (pq * 10 + i)) - (tg i)) else 0 - ((tn (pq * 10 + i)) - (tg i))))), (4, .int (nI i)), (0, .ref h0), (1, .int (nI pq)), (2, .ref ag)]) (by decide) rfl ?_
        refine r_iinc C dX1_differenceFrom_32 1 rfl (v := nI (i + 1)) (nI_1 _) (by decide) (lv2 := [(4, .int (nI (i + 1))), (3, .int (sm + (if 0 ≤ (tn (pq * 10 + i)) - (tg i) then ((tn (pq * 10 + i)) - (tg i)) else 0 - ((tn (pq * 10 + i)) - (tg i))))), (0, .ref h0), (1, .int (nI pq)), (2, .ref ag)]) rfl ?_
        refine r_goto C dX1_differenceFrom_35 (tgt := 5) (by decide) ?_
        refine r_ws [1, 2, 0] (ws2 := [(h0, .inr (1, [.ref a1, .ref a2, .ref a3, .int (nI nl), .int va, .int sg, .int (nI pr), .int sn, .int wk])), (a3, .inl (cI, 120, .inl tn)), (ag, .inl (cI, 10, .inl tg))]) rfl rfl ?_
        exact ih_5 (i + 1) (by omega) (by omega) _ (by subst e_sm; rfl) 
  exact L_5 (nl + 1) 0 (by omega) (by omega) _ rfl 
set_option maxHeartbeats 4000000 in
set_option maxRecDepth 100000 in
/-- addPrint() -/
theorem c_X1_addPrint (l : Launch) (D : va_G) (cI cR : ClassId) (h0 : Nat) (a1 : Nat) (a2 : Nat) (a3 : Nat) (d : Nat → Int32) (ss : Nat → Int32) (tn : Nat → Int32) (nl : Nat) (va : Int32) (sg : Int32) (pr : Nat) (sn : Int32) (wk : Int32) (hnl : nl ≤ 10) (hpr : pr < 12) : Ctr l D cI cR yX1_addPrint cX1_addPrint 4 ((some .int)) ({ frames := 2, cells := 0, slots := 0, locals := 47 }) [.ref h0] [(h0, .inr (1, [.ref a1, .ref a2, .ref a3, .int (nI nl), .int va, .int sg, .int (nI pr), .int sn, .int wk])), (a1, .inl (cI, 10, .inl d)), (a2, .inl (cI, 12, .inl ss)), (a3, .inl (cI, 120, .inl tn))] (rP (some (.int (nI pr))) [(h0, .inr (1, [.ref a1, .ref a2, .ref a3, .int (nI nl), .int va, .int sg, .int (nI (pr + 1)), .int (apS pr sn wk), .int 0])), (a1, .inl (cI, 10, .inl (apD d nl pr))), (a2, .inl (cI, 12, .inl (upd ss pr (apS pr sn wk)))), (a3, .inl (cI, 120, .inl (apT d tn nl pr 10)))]) := by
  refine ctr_of (lv0 := [(0, .ref h0)]) (by decide) (nle rfl) rfl (fun G C E => ?_)
  refine r_aload_n C dX1_addPrint_0 0 rfl ?_
  refine r_get C clX1 dX1_addPrint_1 0 6 rfl (by decide) q_69 rfl ?_
  refine r_istore_n C dX1_addPrint_4 (lv2 := [(1, .int (nI pr)), (0, .ref h0)]) (by decide) rfl ?_
  refine r_iload_n C dX1_addPrint_5 0 rfl ?_
  have J_5 : ∀ (v_4 : Int32), v_4 = (if (nI pr) ≤ 0 then sn else (if wk = 0 then sn else (sn + 1))) → Wr G 0 0 26 [(1, .int (nI pr)), (0, .ref h0)] [] [(h0, .inr (1, [.ref a1, .ref a2, .ref a3, .int (nI nl), .int va, .int sg, .int (nI pr), .int v_4, .int wk])), (a1, .inl (cI, 10, .inl d)), (a2, .inl (cI, 12, .inl ss)), (a3, .inl (cI, 120, .inl tn))] := by
    intro v_4 ev_4
    subst ev_4
    refine r_aload_n C dX1_addPrint_26 1 rfl ?_
    refine r_iconst C dX1_addPrint_27 (v := 0) (by decide) ?_
    refine r_put C clX1 dX1_addPrint_28 0 8 rfl (by decide) q_72 rfl (by decide) rfl (nle rfl) (ws2 := [(h0, .inr (1, [.ref a1, .ref a2, .ref a3, .int (nI nl), .int va, .int sg, .int (nI pr), .int (if (nI pr) ≤ 0 then sn else (if wk = 0 then sn else (sn + 1))), .int 0])), (a1, .inl (cI, 10, .inl d)), (a2, .inl (cI, 12, .inl ss)), (a3, .inl (cI, 120, .inl tn))]) rfl ?_
    refine r_aload_n C dX1_addPrint_31 1 rfl ?_
    refine r_get C clX1 dX1_addPrint_32 0 1 rfl (by decide) q_58 rfl ?_
    refine r_iload_n C dX1_addPrint_35 0 rfl ?_
    refine r_aload_n C dX1_addPrint_36 1 rfl ?_
    refine r_get C clX1 dX1_addPrint_37 0 7 rfl (by decide) q_71 rfl ?_
    refine r_iast C dX1_addPrint_40 2 rfl pr rfl (by omega) (by decide) (ws2 := [(h0, .inr (1, [.ref a1, .ref a2, .ref a3, .int (nI nl), .int va, .int sg, .int (nI pr), .int (if (nI pr) ≤ 0 then sn else (if wk = 0 then sn else (sn + 1))), .int 0])), (a1, .inl (cI, 10, .inl d)), (a2, .inl (cI, 12, .inl (upd ss pr (if (nI pr) ≤ 0 then sn else (if wk = 0 then sn else (sn + 1)))))), (a3, .inl (cI, 120, .inl tn))]) rfl ?_
    refine r_iconst C dX1_addPrint_41 (v := 0) (by decide) ?_
    refine r_istore_n C dX1_addPrint_42 (lv2 := [(2, .int 0), (1, .int (nI pr)), (0, .ref h0)]) (by decide) rfl ?_
    have L_43 : ∀ (z i : Nat), i ≤ 10 → 10 < i + z → ∀ (f : Nat → Int32), f = apT d tn nl pr i → Wr G 0 0 43 [(2, .int (nI i)), (1, .int (nI pr)), (0, .ref h0)] [] [(h0, .inr (1, [.ref a1, .ref a2, .ref a3, .int (nI nl), .int va, .int sg, .int (nI pr), .int (if (nI pr) ≤ 0 then sn else (if wk = 0 then sn else (sn + 1))), .int 0])), (a1, .inl (cI, 10, .inl d)), (a2, .inl (cI, 12, .inl (upd ss pr (if (nI pr) ≤ 0 then sn else (if wk = 0 then sn else (sn + 1)))))), (a3, .inl (cI, 120, .inl f))] := by
      intro z
      induction z with
      | zero => intro i h1 h2; exact absurd h2 (by omega)
      | succ z ih_43 =>
        intro i hi_43 hz_43 f e_f
        refine r_iload_n C dX1_addPrint_43 0 rfl ?_
        refine r_bipush C dX1_addPrint_44 (v := 10) (by decide) ?_
        refine r_icmp_ge C dX1_addPrint_46 (tgt := 89) (by decide) (fun c_6 => ?_) (fun c_6 => ?_)
        · have n_7 := (nI_leI (a := 10) (b := i) (by omega) (by omega)).mp c_6
          have ex_43 : i = 10 := by omega
          subst ex_43
          subst e_f
          refine r_aload_n C dX1_addPrint_89 2 rfl ?_
          refine r_dup C dX1_addPrint_90 rfl ?_
          refine r_get C clX1 dX1_addPrint_91 0 6 rfl (by decide) q_69 rfl ?_
          refine r_iconst C dX1_addPrint_94 (v := 1) (by decide) ?_
          refine r_iadd C dX1_addPrint_95 ?_
          refine r_top (b := nI (pr + 1)) (nA rfl rfl) ?_
          refine r_put C clX1 dX1_addPrint_96 0 6 rfl (by decide) q_69 rfl rfl rfl (nle rfl) (ws2 := [(h0, .inr (1, [.ref a1, .ref a2, .ref a3, .int (nI nl), .int va, .int sg, .int (nI (pr + 1)), .int (if (nI pr) ≤ 0 then sn else (if wk = 0 then sn else (sn + 1))), .int 0])), (a1, .inl (cI, 10, .inl d)), (a2, .inl (cI, 12, .inl (upd ss pr (if (nI pr) ≤ 0 then sn else (if wk = 0 then sn else (sn + 1)))))), (a3, .inl (cI, 120, .inl (apT d tn nl pr 10)))]) rfl ?_
          refine r_aload_n C dX1_addPrint_99 2 rfl ?_
          refine r_get C clX1 dX1_addPrint_100 0 6 rfl (by decide) q_69 rfl ?_
          refine r_iconst C dX1_addPrint_103 (v := 3) (by decide) ?_
          refine r_irem C dX1_addPrint_104 (by decide) ?_
          refine r_top (b := nI ((pr + 1) % 3)) (pk_rem (d := 3) (by omega) (by decide) (by decide)) ?_
          have J_11 : ∀ (f_10 : Nat → Int32), f_10 = (if (nI ((pr + 1) % 3)) = 0 then (weD d nl) else d) → Wr G 0 0 112 [(2, .int (nI 10)), (1, .int (nI pr)), (0, .ref h0)] [] [(h0, .inr (1, [.ref a1, .ref a2, .ref a3, .int (nI nl), .int va, .int sg, .int (nI (pr + 1)), .int (if (nI pr) ≤ 0 then sn else (if wk = 0 then sn else (sn + 1))), .int 0])), (a1, .inl (cI, 10, .inl f_10)), (a2, .inl (cI, 12, .inl (upd ss pr (if (nI pr) ≤ 0 then sn else (if wk = 0 then sn else (sn + 1)))))), (a3, .inl (cI, 120, .inl (apT d tn nl pr 10)))] := by
            intro f_10 ef_10
            subst ef_10
            refine r_iload_n C dX1_addPrint_112 1 rfl ?_
            exact r_iret C E dX1_addPrint_113 (nle rfl) (nle rfl) ⟨rfl, rfl⟩
          refine r_if_ne C dX1_addPrint_105 (tgt := 112) (by decide) (fun c_8 => ?_) (fun c_8 => ?_)
          · have n_9 := mt (nI_eq (a := (pr + 1) % 3) (b := 0) (by omega) (by omega)).mpr c_8
            exact J_11 _ (by first | rfl | simp only [if_neg c_8])
          · have n_9 := (nI_eq (a := (pr + 1) % 3) (b := 0) (by omega) (by omega)).mp c_8
            refine r_aload_n C dX1_addPrint_108 2 rfl ?_
            refine r_callV C (As := []) (rest := []) (wr := [(a2, .inl (cI, 12, .inl (upd ss pr (if (nI pr) ≤ 0 then sn else (if wk = 0 then sn else (sn + 1)))))), (a3, .inl (cI, 120, .inl (apT d tn nl pr 10)))]) (c_X1_wear l D cI cR h0 a1 a2 a3 d nl va sg (pr + 1) (if (nI pr) ≤ 0 then sn else (if wk = 0 then sn else (sn + 1))) 0 (by omega)) k_X1_wear rfl dX1_addPrint_109 q_228 q_230 q_4 ⟨nle rfl, nle rfl⟩ [0, 1] [2, 3] rfl rfl rfl rfl (by decide) 0 rfl rfl rfl (nle rfl) ⟨nle rfl, nle rfl⟩ (r_fin (st2 := []) (ws2 := [(a2, .inl (cI, 12, .inl (upd ss pr (if (nI pr) ≤ 0 then sn else (if wk = 0 then sn else (sn + 1)))))), (a3, .inl (cI, 120, .inl (apT d tn nl pr 10))), (h0, .inr (1, [.ref a1, .ref a2, .ref a3, .int (nI nl), .int va, .int sg, .int (nI (pr + 1)), .int (if (nI pr) ≤ 0 then sn else (if wk = 0 then sn else (sn + 1))), .int 0])), (a1, .inl (cI, 10, .inl (weD d nl)))]) rfl rfl ?_)
            refine r_ws [2, 3, 0, 1] (ws2 := [(h0, .inr (1, [.ref a1, .ref a2, .ref a3, .int (nI nl), .int va, .int sg, .int (nI (pr + 1)), .int (if (nI pr) ≤ 0 then sn else (if wk = 0 then sn else (sn + 1))), .int 0])), (a1, .inl (cI, 10, .inl (weD d nl))), (a2, .inl (cI, 12, .inl (upd ss pr (if (nI pr) ≤ 0 then sn else (if wk = 0 then sn else (sn + 1)))))), (a3, .inl (cI, 120, .inl (apT d tn nl pr 10)))]) rfl rfl ?_
            exact J_11 _ (by first | rfl | simp only [if_pos c_8])
        · have n_7 := mt (nI_leI (a := 10) (b := i) (by omega) (by omega)).mpr c_6
          refine r_iload_n C dX1_addPrint_49 0 rfl ?_
          refine r_aload_n C dX1_addPrint_50 2 rfl ?_
          refine r_get C clX1 dX1_addPrint_51 0 3 rfl (by decide) q_61 rfl ?_
          have J_15 : ∀ (v_14 : Int32), v_14 = (if (nI nl) ≤ (nI i) then 0 else (d i)) → Wr G 0 0 67 [(2, .int (nI i)), (1, .int (nI pr)), (0, .ref h0)] [.int v_14] [(h0, .inr (1, [.ref a1, .ref a2, .ref a3, .int (nI nl), .int va, .int sg, .int (nI pr), .int (if (nI pr) ≤ 0 then sn else (if wk = 0 then sn else (sn + 1))), .int 0])), (a1, .inl (cI, 10, .inl d)), (a2, .inl (cI, 12, .inl (upd ss pr (if (nI pr) ≤ 0 then sn else (if wk = 0 then sn else (sn + 1)))))), (a3, .inl (cI, 120, .inl f))] := by
            intro v_14 ev_14
            subst ev_14
            refine r_istore_n C dX1_addPrint_67 (lv2 := [(3, .int (if (nI nl) ≤ (nI i) then 0 else (d i))), (2, .int (nI i)), (1, .int (nI pr)), (0, .ref h0)]) (by decide) rfl ?_
            refine r_aload_n C dX1_addPrint_68 3 rfl ?_
            refine r_get C clX1 dX1_addPrint_69 0 2 rfl (by decide) q_60 rfl ?_
            refine r_iload_n C dX1_addPrint_72 2 rfl ?_
            refine r_bipush C dX1_addPrint_73 (v := 10) (by decide) ?_
            refine r_imul C dX1_addPrint_75 ?_
            refine r_top (b := nI (pr * 10)) (nM rfl rfl) ?_
            refine r_iload_n C dX1_addPrint_76 1 rfl ?_
            refine r_iadd C dX1_addPrint_77 ?_
            refine r_top (b := nI (pr * 10 + i)) (nA rfl rfl) ?_
            refine r_iload_n C dX1_addPrint_78 0 rfl ?_
            refine r_bipush C dX1_addPrint_79 (v := 10) (by decide) ?_
            refine r_idiv C dX1_addPrint_81 (by decide) ?_
            refine r_iast C dX1_addPrint_82 3 rfl (pr * 10 + i) rfl (by omega) (by decide) (ws2 := [(h0, .inr (1, [.ref a1, .ref a2, .ref a3, .int (nI nl), .int va, .int sg, .int (nI pr), .int (if (nI pr) ≤ 0 then sn else (if wk = 0 then sn else (sn + 1))), .int 0])), (a1, .inl (cI, 10, .inl d)), (a2, .inl (cI, 12, .inl (upd ss pr (if (nI pr) ≤ 0 then sn else (if wk = 0 then sn else (sn + 1)))))), (a3, .inl (cI, 120, .inl (upd f (pr * 10 + i) ((if (nI nl) ≤ (nI i) then 0 else (d i)) / 10))))]) rfl ?_
            refine r_iinc C dX1_addPrint_83 1 rfl (v := nI (i + 1)) (nI_1 _) (by decide) (lv2 := [(2, .int (nI (i + 1))), (3, .int (if (nI nl) ≤ (nI i) then 0 else (d i))), (1, .int (nI pr)), (0, .ref h0)]) rfl ?_
            refine r_goto C dX1_addPrint_86 (tgt := 43) (by decide) ?_
            refine r_lv [0, 2, 3] (lv2 := [(2, .int (nI (i + 1))), (1, .int (nI pr)), (0, .ref h0)]) rfl ?_
            exact ih_43 (i + 1) (by omega) (by omega) _ (by subst e_f; rfl) 
          refine r_icmp_ge C dX1_addPrint_54 (tgt := 66) (by decide) (fun c_12 => ?_) (fun c_12 => ?_)
          · have n_13 := (nI_leI (a := nl) (b := i) (by omega) (by omega)).mp c_12
            refine r_iconst C dX1_addPrint_66 (v := 0) (by decide) ?_
            exact J_15 _ (by first | rfl | simp only [if_pos c_12])
          · have n_13 := mt (nI_leI (a := nl) (b := i) (by omega) (by omega)).mpr c_12
            refine r_aload_n C dX1_addPrint_57 2 rfl ?_
            refine r_get C clX1 dX1_addPrint_58 0 0 rfl (by decide) q_55 rfl ?_
            refine r_iload_n C dX1_addPrint_61 0 rfl ?_
            refine r_iald C dX1_addPrint_62 1 rfl i rfl (by omega) (by decide) ?_
            refine r_goto C dX1_addPrint_63 (tgt := 67) (by decide) ?_
            exact J_15 _ (by first | rfl | simp only [if_neg c_12])
    exact L_43 (10 + 1) 0 (by omega) (by omega) _ rfl 
  refine r_if_le C dX1_addPrint_6 (tgt := 26) (by decide) (fun c_1 => ?_) (fun c_1 => ?_)
  · have n_2 := (nI_leI (a := pr) (b := 0) (by omega) (by omega)).mp c_1
    exact J_5 _ (by first | rfl | simp only [if_pos c_1])
  · have n_2 := mt (nI_leI (a := pr) (b := 0) (by omega) (by omega)).mpr c_1
    refine r_aload_n C dX1_addPrint_9 1 rfl ?_
    refine r_get C clX1 dX1_addPrint_10 0 8 rfl (by decide) q_72 rfl ?_
    refine r_if_eq C dX1_addPrint_13 (tgt := 26) (by decide) (fun c_3 => ?_) (fun c_3 => ?_)
    · exact J_5 _ (by first | rfl | simp only [if_neg c_1, if_pos c_3])
    · refine r_aload_n C dX1_addPrint_16 1 rfl ?_
      refine r_dup C dX1_addPrint_17 rfl ?_
      refine r_get C clX1 dX1_addPrint_18 0 7 rfl (by decide) q_71 rfl ?_
      refine r_iconst C dX1_addPrint_21 (v := 1) (by decide) ?_
      refine r_iadd C dX1_addPrint_22 ?_
      refine r_put C clX1 dX1_addPrint_23 0 7 rfl (by decide) q_71 rfl rfl rfl (nle rfl) (ws2 := [(h0, .inr (1, [.ref a1, .ref a2, .ref a3, .int (nI nl), .int va, .int sg, .int (nI pr), .int (sn + 1), .int wk])), (a1, .inl (cI, 10, .inl d)), (a2, .inl (cI, 12, .inl ss)), (a3, .inl (cI, 120, .inl tn))]) rfl ?_
      exact J_5 _ (by first | rfl | simp only [if_neg c_1, if_neg c_3])
set_option maxHeartbeats 4000000 in
set_option maxRecDepth 100000 in
/-- copyFrom(other) -/
theorem c_X1_copyFrom (l : Launch) (D : va_G) (cI cR : ClassId) (h0 : Nat) (a1 : Nat) (a2 : Nat) (a3 : Nat) (d : Nat → Int32) (ss : Nat → Int32) (tn : Nat → Int32) (nl : Nat) (va : Int32) (sg : Int32) (pr : Nat) (sn : Int32) (wk : Int32) (b0 : Nat) (b1 : Nat) (b2 : Nat) (b3 : Nat) (d2 : Nat → Int32) (ss2 : Nat → Int32) (tn2 : Nat → Int32) (nl2 : Nat) (va2 : Int32) (sg2 : Int32) (pr2 : Nat) (sn2 : Int32) (wk2 : Int32) (hwk : wk2 = 0 ∨ wk2 = 1) : Ctr l D cI cR yX1_copyFrom cX1_copyFrom 2 none ({ frames := 1, cells := 0, slots := 0, locals := 26 }) [.ref h0, .ref b0] [(h0, .inr (1, [.ref a1, .ref a2, .ref a3, .int (nI nl), .int va, .int sg, .int (nI pr), .int sn, .int wk])), (a1, .inl (cI, 10, .inl d)), (a2, .inl (cI, 12, .inl ss)), (a3, .inl (cI, 120, .inl tn)), (b0, .inr (1, [.ref b1, .ref b2, .ref b3, .int (nI nl2), .int va2, .int sg2, .int (nI pr2), .int sn2, .int wk2])), (b1, .inl (cI, 10, .inl d2)), (b2, .inl (cI, 12, .inl ss2)), (b3, .inl (cI, 120, .inl tn2))] (rP none [(h0, .inr (1, [.ref a1, .ref a2, .ref a3, .int (nI nl2), .int va2, .int sg2, .int (nI pr2), .int sn2, .int wk2])), (a1, .inl (cI, 10, .inl (va_cpy d2 d 0 0 10))), (a2, .inl (cI, 12, .inl (va_cpy ss2 ss 0 0 12))), (a3, .inl (cI, 120, .inl (va_cpy tn2 tn 0 0 120))), (b0, .inr (1, [.ref b1, .ref b2, .ref b3, .int (nI nl2), .int va2, .int sg2, .int (nI pr2), .int sn2, .int wk2])), (b1, .inl (cI, 10, .inl d2)), (b2, .inl (cI, 12, .inl ss2)), (b3, .inl (cI, 120, .inl tn2))]) := by
  refine ctr_of (lv0 := [(0, .ref h0), (1, .ref b0)]) (by decide) (nle rfl) rfl (fun G C E => ?_)
  refine r_aload_n C dX1_copyFrom_0 1 rfl ?_
  refine r_get C clX1 dX1_copyFrom_1 4 0 rfl (by decide) q_55 rfl ?_
  refine r_iconst C dX1_copyFrom_4 (v := 0) (by decide) ?_
  refine r_aload_n C dX1_copyFrom_5 0 rfl ?_
  refine r_get C clX1 dX1_copyFrom_6 0 0 rfl (by decide) q_55 rfl ?_
  refine r_iconst C dX1_copyFrom_9 (v := 0) (by decide) ?_
  refine r_bipush C dX1_copyFrom_10 (v := 10) (by decide) ?_
  refine r_copy C dX1_copyFrom_12 q_160 5 1 rfl rfl rfl (by decide) (nle rfl) (nle rfl) (ws2 := [(h0, .inr (1, [.ref a1, .ref a2, .ref a3, .int (nI nl), .int va, .int sg, .int (nI pr), .int sn, .int wk])), (a1, .inl (cI, 10, .inl (va_cpy d2 d 0 0 10))), (a2, .inl (cI, 12, .inl ss)), (a3, .inl (cI, 120, .inl tn)), (b0, .inr (1, [.ref b1, .ref b2, .ref b3, .int (nI nl2), .int va2, .int sg2, .int (nI pr2), .int sn2, .int wk2])), (b1, .inl (cI, 10, .inl d2)), (b2, .inl (cI, 12, .inl ss2)), (b3, .inl (cI, 120, .inl tn2))]) rfl ?_
  refine r_aload_n C dX1_copyFrom_15 1 rfl ?_
  refine r_get C clX1 dX1_copyFrom_16 4 1 rfl (by decide) q_58 rfl ?_
  refine r_iconst C dX1_copyFrom_19 (v := 0) (by decide) ?_
  refine r_aload_n C dX1_copyFrom_20 0 rfl ?_
  refine r_get C clX1 dX1_copyFrom_21 0 1 rfl (by decide) q_58 rfl ?_
  refine r_iconst C dX1_copyFrom_24 (v := 0) (by decide) ?_
  refine r_bipush C dX1_copyFrom_25 (v := 12) (by decide) ?_
  refine r_copy C dX1_copyFrom_27 q_160 6 2 rfl rfl rfl (by decide) (nle rfl) (nle rfl) (ws2 := [(h0, .inr (1, [.ref a1, .ref a2, .ref a3, .int (nI nl), .int va, .int sg, .int (nI pr), .int sn, .int wk])), (a1, .inl (cI, 10, .inl (va_cpy d2 d 0 0 10))), (a2, .inl (cI, 12, .inl (va_cpy ss2 ss 0 0 12))), (a3, .inl (cI, 120, .inl tn)), (b0, .inr (1, [.ref b1, .ref b2, .ref b3, .int (nI nl2), .int va2, .int sg2, .int (nI pr2), .int sn2, .int wk2])), (b1, .inl (cI, 10, .inl d2)), (b2, .inl (cI, 12, .inl ss2)), (b3, .inl (cI, 120, .inl tn2))]) rfl ?_
  refine r_aload_n C dX1_copyFrom_30 1 rfl ?_
  refine r_get C clX1 dX1_copyFrom_31 4 2 rfl (by decide) q_60 rfl ?_
  refine r_iconst C dX1_copyFrom_34 (v := 0) (by decide) ?_
  refine r_aload_n C dX1_copyFrom_35 0 rfl ?_
  refine r_get C clX1 dX1_copyFrom_36 0 2 rfl (by decide) q_60 rfl ?_
  refine r_iconst C dX1_copyFrom_39 (v := 0) (by decide) ?_
  refine r_bipush C dX1_copyFrom_40 (v := 120) (by decide) ?_
  refine r_copy C dX1_copyFrom_42 q_160 7 3 rfl rfl rfl (by decide) (nle rfl) (nle rfl) (ws2 := [(h0, .inr (1, [.ref a1, .ref a2, .ref a3, .int (nI nl), .int va, .int sg, .int (nI pr), .int sn, .int wk])), (a1, .inl (cI, 10, .inl (va_cpy d2 d 0 0 10))), (a2, .inl (cI, 12, .inl (va_cpy ss2 ss 0 0 12))), (a3, .inl (cI, 120, .inl (va_cpy tn2 tn 0 0 120))), (b0, .inr (1, [.ref b1, .ref b2, .ref b3, .int (nI nl2), .int va2, .int sg2, .int (nI pr2), .int sn2, .int wk2])), (b1, .inl (cI, 10, .inl d2)), (b2, .inl (cI, 12, .inl ss2)), (b3, .inl (cI, 120, .inl tn2))]) rfl ?_
  refine r_aload_n C dX1_copyFrom_45 0 rfl ?_
  refine r_aload_n C dX1_copyFrom_46 1 rfl ?_
  refine r_get C clX1 dX1_copyFrom_47 4 3 rfl (by decide) q_61 rfl ?_
  refine r_put C clX1 dX1_copyFrom_50 0 3 rfl (by decide) q_61 rfl rfl rfl (nle rfl) (ws2 := [(h0, .inr (1, [.ref a1, .ref a2, .ref a3, .int (nI nl2), .int va, .int sg, .int (nI pr), .int sn, .int wk])), (a1, .inl (cI, 10, .inl (va_cpy d2 d 0 0 10))), (a2, .inl (cI, 12, .inl (va_cpy ss2 ss 0 0 12))), (a3, .inl (cI, 120, .inl (va_cpy tn2 tn 0 0 120))), (b0, .inr (1, [.ref b1, .ref b2, .ref b3, .int (nI nl2), .int va2, .int sg2, .int (nI pr2), .int sn2, .int wk2])), (b1, .inl (cI, 10, .inl d2)), (b2, .inl (cI, 12, .inl ss2)), (b3, .inl (cI, 120, .inl tn2))]) rfl ?_
  refine r_aload_n C dX1_copyFrom_53 0 rfl ?_
  refine r_aload_n C dX1_copyFrom_54 1 rfl ?_
  refine r_get C clX1 dX1_copyFrom_55 4 4 rfl (by decide) q_64 rfl ?_
  refine r_put C clX1 dX1_copyFrom_58 0 4 rfl (by decide) q_64 rfl rfl rfl (nle rfl) (ws2 := [(h0, .inr (1, [.ref a1, .ref a2, .ref a3, .int (nI nl2), .int va2, .int sg, .int (nI pr), .int sn, .int wk])), (a1, .inl (cI, 10, .inl (va_cpy d2 d 0 0 10))), (a2, .inl (cI, 12, .inl (va_cpy ss2 ss 0 0 12))), (a3, .inl (cI, 120, .inl (va_cpy tn2 tn 0 0 120))), (b0, .inr (1, [.ref b1, .ref b2, .ref b3, .int (nI nl2), .int va2, .int sg2, .int (nI pr2), .int sn2, .int wk2])), (b1, .inl (cI, 10, .inl d2)), (b2, .inl (cI, 12, .inl ss2)), (b3, .inl (cI, 120, .inl tn2))]) rfl ?_
  refine r_aload_n C dX1_copyFrom_61 0 rfl ?_
  refine r_aload_n C dX1_copyFrom_62 1 rfl ?_
  refine r_get C clX1 dX1_copyFrom_63 4 5 rfl (by decide) q_66 rfl ?_
  refine r_put C clX1 dX1_copyFrom_66 0 5 rfl (by decide) q_66 rfl rfl rfl (nle rfl) (ws2 := [(h0, .inr (1, [.ref a1, .ref a2, .ref a3, .int (nI nl2), .int va2, .int sg2, .int (nI pr), .int sn, .int wk])), (a1, .inl (cI, 10, .inl (va_cpy d2 d 0 0 10))), (a2, .inl (cI, 12, .inl (va_cpy ss2 ss 0 0 12))), (a3, .inl (cI, 120, .inl (va_cpy tn2 tn 0 0 120))), (b0, .inr (1, [.ref b1, .ref b2, .ref b3, .int (nI nl2), .int va2, .int sg2, .int (nI pr2), .int sn2, .int wk2])), (b1, .inl (cI, 10, .inl d2)), (b2, .inl (cI, 12, .inl ss2)), (b3, .inl (cI, 120, .inl tn2))]) rfl ?_
  refine r_aload_n C dX1_copyFrom_69 0 rfl ?_
  refine r_aload_n C dX1_copyFrom_70 1 rfl ?_
  refine r_get C clX1 dX1_copyFrom_71 4 6 rfl (by decide) q_69 rfl ?_
  refine r_put C clX1 dX1_copyFrom_74 0 6 rfl (by decide) q_69 rfl rfl rfl (nle rfl) (ws2 := [(h0, .inr (1, [.ref a1, .ref a2, .ref a3, .int (nI nl2), .int va2, .int sg2, .int (nI pr2), .int sn, .int wk])), (a1, .inl (cI, 10, .inl (va_cpy d2 d 0 0 10))), (a2, .inl (cI, 12, .inl (va_cpy ss2 ss 0 0 12))), (a3, .inl (cI, 120, .inl (va_cpy tn2 tn 0 0 120))), (b0, .inr (1, [.ref b1, .ref b2, .ref b3, .int (nI nl2), .int va2, .int sg2, .int (nI pr2), .int sn2, .int wk2])), (b1, .inl (cI, 10, .inl d2)), (b2, .inl (cI, 12, .inl ss2)), (b3, .inl (cI, 120, .inl tn2))]) rfl ?_
  refine r_aload_n C dX1_copyFrom_77 0 rfl ?_
  refine r_aload_n C dX1_copyFrom_78 1 rfl ?_
  refine r_get C clX1 dX1_copyFrom_79 4 7 rfl (by decide) q_71 rfl ?_
  refine r_put C clX1 dX1_copyFrom_82 0 7 rfl (by decide) q_71 rfl rfl rfl (nle rfl) (ws2 := [(h0, .inr (1, [.ref a1, .ref a2, .ref a3, .int (nI nl2), .int va2, .int sg2, .int (nI pr2), .int sn2, .int wk])), (a1, .inl (cI, 10, .inl (va_cpy d2 d 0 0 10))), (a2, .inl (cI, 12, .inl (va_cpy ss2 ss 0 0 12))), (a3, .inl (cI, 120, .inl (va_cpy tn2 tn 0 0 120))), (b0, .inr (1, [.ref b1, .ref b2, .ref b3, .int (nI nl2), .int va2, .int sg2, .int (nI pr2), .int sn2, .int wk2])), (b1, .inl (cI, 10, .inl d2)), (b2, .inl (cI, 12, .inl ss2)), (b3, .inl (cI, 120, .inl tn2))]) rfl ?_
  refine r_aload_n C dX1_copyFrom_85 0 rfl ?_
  refine r_aload_n C dX1_copyFrom_86 1 rfl ?_
  refine r_get C clX1 dX1_copyFrom_87 4 8 rfl (by decide) q_72 rfl ?_
  refine r_put C clX1 dX1_copyFrom_90 0 8 rfl (by decide) q_72 rfl (zB hwk) (zBf hwk) (nle rfl) (ws2 := [(h0, .inr (1, [.ref a1, .ref a2, .ref a3, .int (nI nl2), .int va2, .int sg2, .int (nI pr2), .int sn2, .int wk2])), (a1, .inl (cI, 10, .inl (va_cpy d2 d 0 0 10))), (a2, .inl (cI, 12, .inl (va_cpy ss2 ss 0 0 12))), (a3, .inl (cI, 120, .inl (va_cpy tn2 tn 0 0 120))), (b0, .inr (1, [.ref b1, .ref b2, .ref b3, .int (nI nl2), .int va2, .int sg2, .int (nI pr2), .int sn2, .int wk2])), (b1, .inl (cI, 10, .inl d2)), (b2, .inl (cI, 12, .inl ss2)), (b3, .inl (cI, 120, .inl tn2))]) rfl ?_
  exact r_vret C E dX1_copyFrom_93 (nle rfl) (nle rfl) ⟨rfl, rfl⟩
end
section
/-! the class EtchedPlate$Plan: what its methods do, as functions -/
theorem ne0 {s : Int32} (h : 1 ≤ s) : ¬ s = 0 := by rintro rfl; exact absurd h (by decide)
def fwF (gx sx : Int32) : Int32 := if gx ≤ 0 then 0 else if 1 ≤ sx then (gx + sx - 1) / sx else 0
def msF (gx sx : Int32) : Int32 := if gx < 0 then -1 else if 1 ≤ sx then (if gx / sx < 99 then gx / sx else 99) else -1
def nxF (fe mo : Nat → Int32) (la : Int32) : Nat → Int32
  | 0 => -1
  | i + 1 => if fe i ≤ la then nxF fe mo la i else if nxF fe mo la i = -1 then mo i else if nxF fe mo la i ≤ mo i then nxF fe mo la i else mo i
def chL (fe mo : Nat → Int32) (ml : Nat) : Nat → Int32
  | 0 => 0
  | i + 1 => nxF fe mo (chL fe mo ml i) ml
def chA (fe mo : Nat → Int32) (ml : Nat) (to : Nat → Int32) : Nat → Nat → Int32
  | 0 => to
  | i + 1 => upd (chA fe mo ml to i) i (nxF fe mo (chL fe mo ml i) ml)
/-- the first place from i on with p, at most z places on -/
def fsN (p : Nat → Bool) : Nat → Nat → Nat
  | 0, i => i
  | z + 1, i => if p i then i else fsN p z (i + 1)
def chN (fe mo : Nat → Int32) (ml : Nat) : Nat := fsN (fun k => decide (nxF fe mo (chL fe mo ml k) ml = -1)) ml 0
theorem fsN_hit {p : Nat → Bool} {i : Nat} (hp : p i = true) : ∀ (z a : Nat), a ≤ i → i < a + z → (∀ k, k < i → p k = false) → fsN p z a = i
  | 0, a, h1, h2, _ => absurd h2 (by omega)
  | z + 1, a, h1, h2, h3 => by
    rw [fsN]
    by_cases e : a = i
    · subst e; rw [if_pos hp]
    · rw [h3 a (by omega), if_neg (by decide)]
      exact fsN_hit hp z (a + 1) (by omega) (by omega) h3
theorem fsN_all {p : Nat → Bool} {n : Nat} : ∀ (z a : Nat), a + z = n → (∀ k, k < n → p k = false) → fsN p z a = n
  | 0, a, h1, _ => by rw [fsN]; omega
  | z + 1, a, h1, h3 => by
    rw [fsN, h3 a (by omega), if_neg (by decide)]
    exact fsN_all z (a + 1) (by omega) h3
theorem fsN_le (p : Nat → Bool) : ∀ (z a : Nat), fsN p z a ≤ a + z
  | 0, a => Nat.le_refl _
  | z + 1, a => by
    rw [fsN]
    split
    · omega
    · have := fsN_le p z (a + 1); omega
theorem ch_hit {fe mo : Nat → Int32} {ml i : Nat} (hi : i < ml) (h : ∀ k, k < i → ¬ nxF fe mo (chL fe mo ml k) ml = -1) (h2 : nxF fe mo (chL fe mo ml i) ml = -1) : chN fe mo ml = i :=
  fsN_hit (by simpa using h2) ml 0 (Nat.zero_le _) (by omega) (fun k hk => by simpa using h k hk)
theorem ch_all {fe mo : Nat → Int32} {ml : Nat} (h : ∀ k, k < ml → ¬ nxF fe mo (chL fe mo ml k) ml = -1) : chN fe mo ml = ml :=
  fsN_all ml 0 (by omega) (fun k hk => by simpa using h k hk)
theorem ch_le (fe mo : Nat → Int32) (ml : Nat) : chN fe mo ml ≤ ml := by have := fsN_le (fun k => decide (nxF fe mo (chL fe mo ml k) ml = -1)) ml 0; unfold chN; omega
def tbF (to : Nat → Int32) (dp : Nat) : Int32 := if nI dp ≤ 0 then 0 else to (dp - 1)
def fbF (fe : Nat → Int32) (re : Int32) : Nat → Int32
  | 0 => 0
  | i + 1 => if re < fe i then fbF fe re i else fbF fe re i ||| 1 <<< (nI i &&& 31)
def mkE (d tg : Nat → Int32) (sg : Int32) (fe : Nat → Int32) : Nat → Nat → Int32
  | 0 => fe
  | i + 1 => upd (mkE d tg sg fe i) i (fwF (10 * tg i - d i) sg)
def mkM (d tg : Nat → Int32) (sg : Int32) (mo : Nat → Int32) : Nat → Nat → Int32
  | 0 => mo
  | i + 1 => upd (mkM d tg sg mo i) i (msF (10 * tg i - d i + 10 - 1) sg)
def mkB (d tg : Nat → Int32) (sg : Int32) : Nat → Int32
  | 0 => 0
  | i + 1 => if fwF (10 * tg i - d i) sg ≤ msF (10 * tg i - d i + 10 - 1) sg then mkB d tg sg i else mkB d tg sg i ||| 1 <<< (nI i &&& 31)
def mkC (d tg : Nat → Int32) (sg : Int32) (fe mo : Nat → Int32) (nl : Nat) : Nat := if mkB d tg sg nl = 0 then chN (mkE d tg sg fe nl) (mkM d tg sg mo nl) nl else 0
def mkT (d tg : Nat → Int32) (sg : Int32) (fe mo to : Nat → Int32) (nl : Nat) : Nat → Int32 := if mkB d tg sg nl = 0 then chA (mkE d tg sg fe nl) (mkM d tg sg mo nl) nl to (chN (mkE d tg sg fe nl) (mkM d tg sg mo nl) nl) else to
set_option maxHeartbeats 4000000 in
set_option maxRecDepth 100000 in
/-- fewestMinutes(gap, strength) -/
theorem c_X0_fewestMinutes (l : Launch) (D : va_G) (cI cR : ClassId) (gx : Int32) (sx : Int32)  : Ctr l D cI cR yX0_fewestMinutes cX0_fewestMinutes 2 ((some .int)) ({ frames := 0, cells := 0, slots := 0, locals := 0 }) [.int gx, .int sx] [] (rP (some (.int (fwF gx sx))) []) := by
  refine ctr_of (lv0 := [(0, .int gx), (1, .int sx)]) (by decide) (nle rfl) rfl (fun G C E => ?_)
  refine r_iload_n C dX0_fewestMinutes_0 0 rfl ?_
  refine r_if_le C dX0_fewestMinutes_1 (tgt := 9) (by decide) (fun c_1 => ?_) (fun c_1 => ?_)
  · refine r_iconst C dX0_fewestMinutes_9 (v := 0) (by decide) ?_
    exact r_iret C E dX0_fewestMinutes_10 (nle rfl) (nle rfl) ⟨(by first | rfl | simp only [fwF, if_pos c_1]), (by first | rfl | simp only [fwF, if_pos c_1])⟩
  · refine r_iload_n C dX0_fewestMinutes_4 1 rfl ?_
    refine r_iconst C dX0_fewestMinutes_5 (v := 1) (by decide) ?_
    refine r_icmp_ge C dX0_fewestMinutes_6 (tgt := 11) (by decide) (fun hs1 => ?_) (fun hs1 => ?_)
    · refine r_iload_n C dX0_fewestMinutes_11 0 rfl ?_
      refine r_iload_n C dX0_fewestMinutes_12 1 rfl ?_
      refine r_iadd C dX0_fewestMinutes_13 ?_
      refine r_iconst C dX0_fewestMinutes_14 (v := 1) (by decide) ?_
      refine r_isub C dX0_fewestMinutes_15 ?_
      refine r_iload_n C dX0_fewestMinutes_16 1 rfl ?_
      refine r_idiv C dX0_fewestMinutes_17 (ne0 hs1) ?_
      exact r_iret C E dX0_fewestMinutes_18 (nle rfl) (nle rfl) ⟨(by first | rfl | simp only [fwF, if_neg c_1, if_pos hs1]), (by first | rfl | simp only [fwF, if_neg c_1, if_pos hs1])⟩
    · refine r_iconst C dX0_fewestMinutes_9 (v := 0) (by decide) ?_
      exact r_iret C E dX0_fewestMinutes_10 (nle rfl) (nle rfl) ⟨(by first | rfl | simp only [fwF, if_neg c_1, if_neg hs1]), (by first | rfl | simp only [fwF, if_neg c_1, if_neg hs1])⟩
set_option maxHeartbeats 4000000 in
set_option maxRecDepth 100000 in
/-- mostMinutes(room, strength) -/
theorem c_X0_mostMinutes (l : Launch) (D : va_G) (cI cR : ClassId) (gx : Int32) (sx : Int32)  : Ctr l D cI cR yX0_mostMinutes cX0_mostMinutes 2 ((some .int)) ({ frames := 1, cells := 0, slots := 0, locals := 26 }) [.int gx, .int sx] [] (rP (some (.int (msF gx sx))) []) := by
  refine ctr_of (lv0 := [(0, .int gx), (1, .int sx)]) (by decide) (nle rfl) rfl (fun G C E => ?_)
  refine r_iload_n C dX0_mostMinutes_0 0 rfl ?_
  refine r_if_lt C dX0_mostMinutes_1 (tgt := 9) (by decide) (fun c_1 => ?_) (fun c_1 => ?_)
  · refine r_iconst C dX0_mostMinutes_9 (v := (-1)) (by decide) ?_
    exact r_iret C E dX0_mostMinutes_10 (nle rfl) (nle rfl) ⟨(by first | rfl | simp only [msF, if_pos c_1]), (by first | rfl | simp only [msF, if_pos c_1])⟩
  · refine r_iload_n C dX0_mostMinutes_4 1 rfl ?_
    refine r_iconst C dX0_mostMinutes_5 (v := 1) (by decide) ?_
    refine r_icmp_ge C dX0_mostMinutes_6 (tgt := 11) (by decide) (fun hs1 => ?_) (fun hs1 => ?_)
    · refine r_bipush C dX0_mostMinutes_11 (v := 99) (by decide) ?_
      refine r_iload_n C dX0_mostMinutes_13 0 rfl ?_
      refine r_iload_n C dX0_mostMinutes_14 1 rfl ?_
      refine r_idiv C dX0_mostMinutes_15 (ne0 hs1) ?_
      refine r_mmin C dX0_mostMinutes_16 q_327 (nle rfl) (nle rfl) (nle rfl) (nle rfl) ?_
      exact r_iret C E dX0_mostMinutes_19 (nle rfl) (nle rfl) ⟨(by first | rfl | simp only [msF, if_neg c_1, if_pos hs1]), (by first | rfl | simp only [msF, if_neg c_1, if_pos hs1])⟩
    · refine r_iconst C dX0_mostMinutes_9 (v := (-1)) (by decide) ?_
      exact r_iret C E dX0_mostMinutes_10 (nle rfl) (nle rfl) ⟨(by first | rfl | simp only [msF, if_neg c_1, if_neg hs1]), (by first | rfl | simp only [msF, if_neg c_1, if_neg hs1])⟩
set_option maxHeartbeats 4000000 in
set_option maxRecDepth 100000 in
/-- nextTotal(latest) -/
theorem c_X0_nextTotal (l : Launch) (D : va_G) (cI cR : ClassId) (p0 : Nat) (p1 : Nat) (p2 : Nat) (p3 : Nat) (fe : Nat → Int32) (mo : Nat → Int32) (ml : Nat) (tc : Int32) (bl : Int32) (la : Int32) (hml : ml ≤ 10) : Ctr l D cI cR yX0_nextTotal cX0_nextTotal 4 ((some .int)) ({ frames := 0, cells := 0, slots := 0, locals := 0 }) [.ref p0, .int la] [(p0, .inr (0, [.ref p1, .ref p2, .ref p3, .int (nI ml), .int tc, .int bl])), (p1, .inl (cI, 10, .inl fe)), (p2, .inl (cI, 10, .inl mo))] (rP (some (.int (nxF fe mo la ml))) [(p0, .inr (0, [.ref p1, .ref p2, .ref p3, .int (nI ml), .int tc, .int bl])), (p1, .inl (cI, 10, .inl fe)), (p2, .inl (cI, 10, .inl mo))]) := by
  refine ctr_of (lv0 := [(0, .ref p0), (1, .int la)]) (by decide) (nle rfl) rfl (fun G C E => ?_)
  refine r_iconst C dX0_nextTotal_0 (v := (-1)) (by decide) ?_
  refine r_istore_n C dX0_nextTotal_1 (lv2 := [(2, .int (-1)), (0, .ref p0), (1, .int la)]) (by decide) rfl ?_
  refine r_iconst C dX0_nextTotal_2 (v := 0) (by decide) ?_
  refine r_istore_n C dX0_nextTotal_3 (lv2 := [(3, .int 0), (2, .int (-1)), (0, .ref p0), (1, .int la)]) (by decide) rfl ?_
  have L_4 : ∀ (z i : Nat), i ≤ ml → ml < i + z → ∀ (nx : Int32), nx = nxF fe mo la i → Wr G 0 0 4 [(3, .int (nI i)), (2, .int nx), (0, .ref p0), (1, .int la)] [] [(p0, .inr (0, [.ref p1, .ref p2, .ref p3, .int (nI ml), .int tc, .int bl])), (p1, .inl (cI, 10, .inl fe)), (p2, .inl (cI, 10, .inl mo))] := by
    intro z
    induction z with
    | zero => intro i h1 h2; exact absurd h2 (by omega)
    | succ z ih_4 =>
      intro i hi_4 hz_4 nx e_nx
      refine r_iload_n C dX0_nextTotal_4 0 rfl ?_
      refine r_aload_n C dX0_nextTotal_5 2 rfl ?_
      refine r_get C clX0 dX0_nextTotal_6 0 3 rfl (by decide) q_103 rfl ?_
      refine r_icmp_ge C dX0_nextTotal_9 (tgt := 50) (by decide) (fun c_1 => ?_) (fun c_1 => ?_)
      · have n_2 := (nI_leI (a := ml) (b := i) (by omega) (by omega)).mp c_1
        have ex_4 : ml = i := by omega
        subst ex_4
        subst e_nx
        refine r_iload_n C dX0_nextTotal_50 1 rfl ?_
        exact r_iret C E dX0_nextTotal_51 (nle rfl) (nle rfl) ⟨rfl, rfl⟩
      · have n_2 := mt (nI_leI (a := ml) (b := i) (by omega) (by omega)).mpr c_1
        refine r_aload_n C dX0_nextTotal_12 2 rfl ?_
        refine r_get C clX0 dX0_nextTotal_13 0 0 rfl (by decide) q_100 rfl ?_
        refine r_iload_n C dX0_nextTotal_16 0 rfl ?_
        refine r_iald C dX0_nextTotal_17 1 rfl i rfl (by omega) (by decide) ?_
        refine r_iload_n C dX0_nextTotal_18 3 rfl ?_
        have J_7 : ∀ (v_6 : Int32), v_6 = (if (fe i) ≤ la then nx else (if nx = (-1) then (mo i) else (if nx ≤ (mo i) then nx else (mo i)))) → Wr G 0 0 44 [(3, .int (nI i)), (2, .int v_6), (0, .ref p0), (1, .int la)] [] [(p0, .inr (0, [.ref p1, .ref p2, .ref p3, .int (nI ml), .int tc, .int bl])), (p1, .inl (cI, 10, .inl fe)), (p2, .inl (cI, 10, .inl mo))] := by
          intro v_6 ev_6
          subst ev_6
          refine r_iinc C dX0_nextTotal_44 0 rfl (v := nI (i + 1)) (nI_1 _) (by decide) (lv2 := [(3, .int (nI (i + 1))), (2, .int (if (fe i) ≤ la then nx else (if nx = (-1) then (mo i) else (if nx ≤ (mo i) then nx else (mo i))))), (0, .ref p0), (1, .int la)]) rfl ?_
          refine r_goto C dX0_nextTotal_47 (tgt := 4) (by decide) ?_
          exact ih_4 (i + 1) (by omega) (by omega) _ (by subst e_nx; rfl) 
        refine r_icmp_le C dX0_nextTotal_19 (tgt := 44) (by decide) (fun c_3 => ?_) (fun c_3 => ?_)
        · exact J_7 _ (by first | rfl | simp only [if_pos c_3])
        · refine r_iload_n C dX0_nextTotal_22 1 rfl ?_
          refine r_iconst C dX0_nextTotal_23 (v := (-1)) (by decide) ?_
          refine r_icmp_eq C dX0_nextTotal_24 (tgt := 37) (by decide) (fun c_4 => ?_) (fun c_4 => ?_)
          · refine r_aload_n C dX0_nextTotal_37 2 rfl ?_
            refine r_get C clX0 dX0_nextTotal_38 0 1 rfl (by decide) q_101 rfl ?_
            refine r_iload_n C dX0_nextTotal_41 0 rfl ?_
            refine r_iald C dX0_nextTotal_42 2 rfl i rfl (by omega) (by decide) ?_
            refine r_istore_n C dX0_nextTotal_43 (lv2 := [(2, .int (mo i)), (3, .int (nI i)), (0, .ref p0), (1, .int la)]) (by decide) rfl ?_
            refine r_lv [1, 0, 2, 3] (lv2 := [(3, .int (nI i)), (2, .int (mo i)), (0, .ref p0), (1, .int la)]) rfl ?_
            exact J_7 _ (by first | rfl | simp only [if_neg c_3, if_pos c_4])
          · refine r_aload_n C dX0_nextTotal_27 2 rfl ?_
            refine r_get C clX0 dX0_nextTotal_28 0 1 rfl (by decide) q_101 rfl ?_
            refine r_iload_n C dX0_nextTotal_31 0 rfl ?_
            refine r_iald C dX0_nextTotal_32 2 rfl i rfl (by omega) (by decide) ?_
            refine r_iload_n C dX0_nextTotal_33 1 rfl ?_
            refine r_icmp_ge C dX0_nextTotal_34 (tgt := 44) (by decide) (fun c_5 => ?_) (fun c_5 => ?_)
            · exact J_7 _ (by first | rfl | simp only [if_neg c_3, if_neg c_4, if_pos c_5])
            · refine r_aload_n C dX0_nextTotal_37 2 rfl ?_
              refine r_get C clX0 dX0_nextTotal_38 0 1 rfl (by decide) q_101 rfl ?_
              refine r_iload_n C dX0_nextTotal_41 0 rfl ?_
              refine r_iald C dX0_nextTotal_42 2 rfl i rfl (by omega) (by decide) ?_
              refine r_istore_n C dX0_nextTotal_43 (lv2 := [(2, .int (mo i)), (3, .int (nI i)), (0, .ref p0), (1, .int la)]) (by decide) rfl ?_
              refine r_lv [1, 0, 2, 3] (lv2 := [(3, .int (nI i)), (2, .int (mo i)), (0, .ref p0), (1, .int la)]) rfl ?_
              exact J_7 _ (by first | rfl | simp only [if_neg c_3, if_neg c_4, if_neg c_5])
  exact L_4 (ml + 1) 0 (by omega) (by omega) _ rfl 
set_option maxHeartbeats 4000000 in
set_option maxRecDepth 100000 in
/-- chooseTotals() -/
theorem c_X0_chooseTotals (l : Launch) (D : va_G) (cI cR : ClassId) (p0 : Nat) (p1 : Nat) (p2 : Nat) (p3 : Nat) (fe : Nat → Int32) (mo : Nat → Int32) (to : Nat → Int32) (ml : Nat) (bl : Int32) (hml : ml ≤ 10) : Ctr l D cI cR yX0_chooseTotals cX0_chooseTotals 4 none ({ frames := 1, cells := 0, slots := 0, locals := 23 }) [.ref p0] [(p0, .inr (0, [.ref p1, .ref p2, .ref p3, .int (nI ml), .int (nI 0), .int bl])), (p1, .inl (cI, 10, .inl fe)), (p2, .inl (cI, 10, .inl mo)), (p3, .inl (cI, 10, .inl to))] (rP none [(p0, .inr (0, [.ref p1, .ref p2, .ref p3, .int (nI ml), .int (nI (chN fe mo ml)), .int bl])), (p1, .inl (cI, 10, .inl fe)), (p2, .inl (cI, 10, .inl mo)), (p3, .inl (cI, 10, .inl (chA fe mo ml to (chN fe mo ml))))]) := by
  refine ctr_of (lv0 := [(0, .ref p0)]) (by decide) (nle rfl) rfl (fun G C E => ?_)
  refine r_iconst C dX0_chooseTotals_0 (v := 0) (by decide) ?_
  refine r_istore_n C dX0_chooseTotals_1 (lv2 := [(1, .int 0), (0, .ref p0)]) (by decide) rfl ?_
  refine r_iconst C dX0_chooseTotals_2 (v := 0) (by decide) ?_
  refine r_istore_n C dX0_chooseTotals_3 (lv2 := [(2, .int 0), (1, .int 0), (0, .ref p0)]) (by decide) rfl ?_
  have L_4 : ∀ (z i : Nat), i ≤ ml → ml < i + z → ∀ (la : Int32) (f : Nat → Int32), la = chL fe mo ml i → f = chA fe mo ml to i → (∀ k, k < i → ¬ nxF fe mo (chL fe mo ml k) ml = -1) → Wr G 0 0 4 [(2, .int (nI i)), (1, .int la), (0, .ref p0)] [] [(p0, .inr (0, [.ref p1, .ref p2, .ref p3, .int (nI ml), .int (nI i), .int bl])), (p1, .inl (cI, 10, .inl fe)), (p2, .inl (cI, 10, .inl mo)), (p3, .inl (cI, 10, .inl f))] := by
    intro z
    induction z with
    | zero => intro i h1 h2; exact absurd h2 (by omega)
    | succ z ih_4 =>
      intro i hi_4 hz_4 la f e_la e_f hch
      refine r_iload_n C dX0_chooseTotals_4 0 rfl ?_
      refine r_aload_n C dX0_chooseTotals_5 2 rfl ?_
      refine r_get C clX0 dX0_chooseTotals_6 0 3 rfl (by decide) q_103 rfl ?_
      refine r_icmp_ge C dX0_chooseTotals_9 (tgt := 52) (by decide) (fun c_1 => ?_) (fun c_1 => ?_)
      · have n_2 := (nI_leI (a := ml) (b := i) (by omega) (by omega)).mp c_1
        have ex_4 : ml = i := by omega
        subst ex_4
        subst e_la
        subst e_f
        exact r_vret C E dX0_chooseTotals_52 (nle rfl) (nle rfl) ⟨rfl, by rw [ch_all hch]⟩
      · have n_2 := mt (nI_leI (a := ml) (b := i) (by omega) (by omega)).mpr c_1
        refine r_aload_n C dX0_chooseTotals_12 2 rfl ?_
        refine r_iload_n C dX0_chooseTotals_13 1 rfl ?_
        refine r_callV C (As := [.int la]) (rest := []) (wr := [(p3, .inl (cI, 10, .inl f))]) (c_X0_nextTotal l D cI cR p0 p1 p2 p3 fe mo ml (nI i) bl la (by omega)) k_X0_nextTotal rfl dX0_chooseTotals_14 q_332 q_334 q_8 ⟨nle rfl, nle rfl⟩ [0, 1, 2] [3] rfl rfl rfl rfl (by decide) 0 rfl rfl rfl (nle rfl) ⟨nle rfl, nle rfl⟩ (r_fin (st2 := [.int (nxF fe mo la ml)]) (ws2 := [(p3, .inl (cI, 10, .inl f)), (p0, .inr (0, [.ref p1, .ref p2, .ref p3, .int (nI ml), .int (nI i), .int bl])), (p1, .inl (cI, 10, .inl fe)), (p2, .inl (cI, 10, .inl mo))]) rfl rfl ?_)
        refine r_istore_n C dX0_chooseTotals_17 (lv2 := [(3, .int (nxF fe mo la ml)), (2, .int (nI i)), (1, .int la), (0, .ref p0)]) (by decide) rfl ?_
        refine r_iload_n C dX0_chooseTotals_18 0 rfl ?_
        refine r_iconst C dX0_chooseTotals_19 (v := (-1)) (by decide) ?_
        refine r_icmp_ne C dX0_chooseTotals_20 (tgt := 24) (by decide) (fun hnx => ?_) (fun hnx => ?_)
        · refine r_aload_n C dX0_chooseTotals_24 3 rfl ?_
          refine r_get C clX0 dX0_chooseTotals_25 1 2 rfl (by decide) q_102 rfl ?_
          refine r_aload_n C dX0_chooseTotals_28 3 rfl ?_
          refine r_get C clX0 dX0_chooseTotals_29 1 4 rfl (by decide) q_104 rfl ?_
          refine r_iload_n C dX0_chooseTotals_32 0 rfl ?_
          refine r_iast C dX0_chooseTotals_33 0 rfl i rfl (by omega) (by decide) (ws2 := [(p3, .inl (cI, 10, .inl (upd f i (nxF fe mo la ml)))), (p0, .inr (0, [.ref p1, .ref p2, .ref p3, .int (nI ml), .int (nI i), .int bl])), (p1, .inl (cI, 10, .inl fe)), (p2, .inl (cI, 10, .inl mo))]) rfl ?_
          refine r_aload_n C dX0_chooseTotals_34 3 rfl ?_
          refine r_dup C dX0_chooseTotals_35 rfl ?_
          refine r_get C clX0 dX0_chooseTotals_36 1 4 rfl (by decide) q_104 rfl ?_
          refine r_iconst C dX0_chooseTotals_39 (v := 1) (by decide) ?_
          refine r_iadd C dX0_chooseTotals_40 ?_
          refine r_top (b := nI (i + 1)) (nA rfl rfl) ?_
          refine r_put C clX0 dX0_chooseTotals_41 1 4 rfl (by decide) q_104 rfl rfl rfl (nle rfl) (ws2 := [(p3, .inl (cI, 10, .inl (upd f i (nxF fe mo la ml)))), (p0, .inr (0, [.ref p1, .ref p2, .ref p3, .int (nI ml), .int (nI (i + 1)), .int bl])), (p1, .inl (cI, 10, .inl fe)), (p2, .inl (cI, 10, .inl mo))]) rfl ?_
          refine r_iload_n C dX0_chooseTotals_44 0 rfl ?_
          refine r_istore_n C dX0_chooseTotals_45 (lv2 := [(1, .int (nxF fe mo la ml)), (3, .int (nxF fe mo la ml)), (2, .int (nI i)), (0, .ref p0)]) (by decide) rfl ?_
          refine r_iinc C dX0_chooseTotals_46 2 rfl (v := nI (i + 1)) (nI_1 _) (by decide) (lv2 := [(2, .int (nI (i + 1))), (1, .int (nxF fe mo la ml)), (3, .int (nxF fe mo la ml)), (0, .ref p0)]) rfl ?_
          refine r_goto C dX0_chooseTotals_49 (tgt := 4) (by decide) ?_
          refine r_lv [0, 1, 3] (lv2 := [(2, .int (nI (i + 1))), (1, .int (nxF fe mo la ml)), (0, .ref p0)]) rfl ?_
          refine r_ws [1, 2, 3, 0] (ws2 := [(p0, .inr (0, [.ref p1, .ref p2, .ref p3, .int (nI ml), .int (nI (i + 1)), .int bl])), (p1, .inl (cI, 10, .inl fe)), (p2, .inl (cI, 10, .inl mo)), (p3, .inl (cI, 10, .inl (upd f i (nxF fe mo la ml))))]) rfl rfl ?_
          exact ih_4 (i + 1) (by omega) (by omega) _ _ (by subst e_la; subst e_f; rfl) (by subst e_la; subst e_f; rfl) (lt_s hch (by subst e_la; exact hnx))
        · refine r_ws [1, 2, 3, 0] (ws2 := [(p0, .inr (0, [.ref p1, .ref p2, .ref p3, .int (nI ml), .int (nI i), .int bl])), (p1, .inl (cI, 10, .inl fe)), (p2, .inl (cI, 10, .inl mo)), (p3, .inl (cI, 10, .inl f))]) rfl rfl ?_
          exact r_vret C E dX0_chooseTotals_23 (nle rfl) (nle rfl) ⟨rfl, by subst e_la; subst e_f; rw [ch_hit (show i < ml by omega) hch hnx]⟩
  exact L_4 (ml + 1) 0 (by omega) (by omega) _ _ rfl rfl (fun k h => absurd h (Nat.not_lt_zero k))
set_option maxHeartbeats 4000000 in
set_option maxRecDepth 100000 in
/-- totalBefore(dip) -/
theorem c_X0_totalBefore (l : Launch) (D : va_G) (cI cR : ClassId) (p0 : Nat) (p1 : Nat) (p2 : Nat) (p3 : Nat) (to : Nat → Int32) (ml : Nat) (tc : Int32) (bl : Int32) (dp : Nat) (hdp : dp ≤ 10) : Ctr l D cI cR yX0_totalBefore cX0_totalBefore 2 ((some .int)) ({ frames := 0, cells := 0, slots := 0, locals := 0 }) [.ref p0, .int (nI dp)] [(p0, .inr (0, [.ref p1, .ref p2, .ref p3, .int (nI ml), .int tc, .int bl])), (p3, .inl (cI, 10, .inl to))] (rP (some (.int (tbF to dp))) [(p0, .inr (0, [.ref p1, .ref p2, .ref p3, .int (nI ml), .int tc, .int bl])), (p3, .inl (cI, 10, .inl to))]) := by
  refine ctr_of (lv0 := [(0, .ref p0), (1, .int (nI dp))]) (by decide) (nle rfl) rfl (fun G C E => ?_)
  refine r_iload_n C dX0_totalBefore_0 1 rfl ?_
  have J_4 : ∀ (v_3 : Int32), v_3 = (if (nI dp) ≤ 0 then 0 else (to (dp - 1))) → Wr G 0 0 16 [(0, .ref p0), (1, .int (nI dp))] [.int v_3] [(p0, .inr (0, [.ref p1, .ref p2, .ref p3, .int (nI ml), .int tc, .int bl])), (p3, .inl (cI, 10, .inl to))] := by
    intro v_3 ev_3
    subst ev_3
    exact r_iret C E dX0_totalBefore_16 (nle rfl) (nle rfl) ⟨rfl, rfl⟩
  refine r_if_le C dX0_totalBefore_1 (tgt := 15) (by decide) (fun c_1 => ?_) (fun c_1 => ?_)
  · have n_2 := (nI_leI (a := dp) (b := 0) (by omega) (by omega)).mp c_1
    refine r_iconst C dX0_totalBefore_15 (v := 0) (by decide) ?_
    exact J_4 _ (by first | rfl | simp only [if_pos c_1])
  · have n_2 := mt (nI_leI (a := dp) (b := 0) (by omega) (by omega)).mpr c_1
    refine r_aload_n C dX0_totalBefore_4 0 rfl ?_
    refine r_get C clX0 dX0_totalBefore_5 0 2 rfl (by decide) q_102 rfl ?_
    refine r_iload_n C dX0_totalBefore_8 1 rfl ?_
    refine r_iconst C dX0_totalBefore_9 (v := 1) (by decide) ?_
    refine r_isub C dX0_totalBefore_10 ?_
    refine r_top (b := nI (dp - 1)) (pk_sub (b := 1) (by omega)) ?_
    refine r_iald C dX0_totalBefore_11 1 rfl (dp - 1) rfl (by omega) (by decide) ?_
    refine r_goto C dX0_totalBefore_12 (tgt := 16) (by decide) ?_
    exact J_4 _ (by first | rfl | simp only [if_neg c_1])
set_option maxHeartbeats 4000000 in
set_option maxRecDepth 100000 in
/-- minutesAt(dip) -/
theorem c_X0_minutesAt (l : Launch) (D : va_G) (cI cR : ClassId) (p0 : Nat) (p1 : Nat) (p2 : Nat) (p3 : Nat) (to : Nat → Int32) (ml : Nat) (tc : Int32) (bl : Int32) (dp : Nat) (hdp : dp < 10) : Ctr l D cI cR yX0_minutesAt cX0_minutesAt 2 ((some .int)) ({ frames := 1, cells := 0, slots := 0, locals := 21 }) [.ref p0, .int (nI dp)] [(p0, .inr (0, [.ref p1, .ref p2, .ref p3, .int (nI ml), .int tc, .int bl])), (p3, .inl (cI, 10, .inl to))] (rP (some (.int (to dp - tbF to dp))) [(p0, .inr (0, [.ref p1, .ref p2, .ref p3, .int (nI ml), .int tc, .int bl])), (p3, .inl (cI, 10, .inl to))]) := by
  refine ctr_of (lv0 := [(0, .ref p0), (1, .int (nI dp))]) (by decide) (nle rfl) rfl (fun G C E => ?_)
  refine r_aload_n C dX0_minutesAt_0 0 rfl ?_
  refine r_get C clX0 dX0_minutesAt_1 0 2 rfl (by decide) q_102 rfl ?_
  refine r_iload_n C dX0_minutesAt_4 1 rfl ?_
  refine r_iald C dX0_minutesAt_5 1 rfl dp rfl (by omega) (by decide) ?_
  refine r_aload_n C dX0_minutesAt_6 0 rfl ?_
  refine r_iload_n C dX0_minutesAt_7 1 rfl ?_
  refine r_callV C (As := [.int (nI dp)]) (rest := [.int (to dp)]) (wr := []) (c_X0_totalBefore l D cI cR p0 p1 p2 p3 to ml tc bl dp (by omega)) k_X0_totalBefore rfl dX0_minutesAt_8 q_348 q_350 q_10 ⟨nle rfl, nle rfl⟩ [0, 1] [] rfl rfl rfl rfl (by decide) 0 rfl rfl rfl (nle rfl) ⟨nle rfl, nle rfl⟩ (r_fin (st2 := [.int (tbF to dp), .int (to dp)]) (ws2 := [(p0, .inr (0, [.ref p1, .ref p2, .ref p3, .int (nI ml), .int tc, .int bl])), (p3, .inl (cI, 10, .inl to))]) rfl rfl ?_)
  refine r_isub C dX0_minutesAt_11 ?_
  exact r_iret C E dX0_minutesAt_12 (nle rfl) (nle rfl) ⟨rfl, rfl⟩
set_option maxHeartbeats 4000000 in
set_option maxRecDepth 100000 in
/-- finishedBefore(dip) -/
theorem c_X0_finishedBefore (l : Launch) (D : va_G) (cI cR : ClassId) (p0 : Nat) (p1 : Nat) (p2 : Nat) (p3 : Nat) (fe : Nat → Int32) (to : Nat → Int32) (ml : Nat) (tc : Int32) (bl : Int32) (dp : Nat) (hml : ml ≤ 10) (hdp : dp ≤ 10) : Ctr l D cI cR yX0_finishedBefore cX0_finishedBefore 5 ((some .int)) ({ frames := 1, cells := 0, slots := 0, locals := 21 }) [.ref p0, .int (nI dp)] [(p0, .inr (0, [.ref p1, .ref p2, .ref p3, .int (nI ml), .int tc, .int bl])), (p1, .inl (cI, 10, .inl fe)), (p3, .inl (cI, 10, .inl to))] (rP (some (.int (fbF fe (tbF to dp) ml))) [(p0, .inr (0, [.ref p1, .ref p2, .ref p3, .int (nI ml), .int tc, .int bl])), (p1, .inl (cI, 10, .inl fe)), (p3, .inl (cI, 10, .inl to))]) := by
  refine ctr_of (lv0 := [(0, .ref p0), (1, .int (nI dp))]) (by decide) (nle rfl) rfl (fun G C E => ?_)
  refine r_aload_n C dX0_finishedBefore_0 0 rfl ?_
  refine r_iload_n C dX0_finishedBefore_1 1 rfl ?_
  refine r_callV C (As := [.int (nI dp)]) (rest := []) (wr := [(p1, .inl (cI, 10, .inl fe))]) (c_X0_totalBefore l D cI cR p0 p1 p2 p3 to ml tc bl dp (by omega)) k_X0_totalBefore rfl dX0_finishedBefore_2 q_348 q_350 q_10 ⟨nle rfl, nle rfl⟩ [0, 2] [1] rfl rfl rfl rfl (by decide) 0 rfl rfl rfl (nle rfl) ⟨nle rfl, nle rfl⟩ (r_fin (st2 := [.int (tbF to dp)]) (ws2 := [(p1, .inl (cI, 10, .inl fe)), (p0, .inr (0, [.ref p1, .ref p2, .ref p3, .int (nI ml), .int tc, .int bl])), (p3, .inl (cI, 10, .inl to))]) rfl rfl ?_)
  refine r_istore_n C dX0_finishedBefore_5 (lv2 := [(2, .int (tbF to dp)), (0, .ref p0), (1, .int (nI dp))]) (by decide) rfl ?_
  refine r_iconst C dX0_finishedBefore_6 (v := 0) (by decide) ?_
  refine r_istore_n C dX0_finishedBefore_7 (lv2 := [(3, .int 0), (2, .int (tbF to dp)), (0, .ref p0), (1, .int (nI dp))]) (by decide) rfl ?_
  refine r_iconst C dX0_finishedBefore_8 (v := 0) (by decide) ?_
  refine r_istore C dX0_finishedBefore_9 (lv2 := [(4, .int 0), (3, .int 0), (2, .int (tbF to dp)), (0, .ref p0), (1, .int (nI dp))]) (by decide) rfl ?_
  have L_11 : ∀ (z i : Nat), i ≤ ml → ml < i + z → ∀ (se : Int32), se = fbF fe (tbF to dp) i → Wr G 0 0 11 [(4, .int (nI i)), (3, .int se), (2, .int (tbF to dp)), (0, .ref p0), (1, .int (nI dp))] [] [(p1, .inl (cI, 10, .inl fe)), (p0, .inr (0, [.ref p1, .ref p2, .ref p3, .int (nI ml), .int tc, .int bl])), (p3, .inl (cI, 10, .inl to))] := by
    intro z
    induction z with
    | zero => intro i h1 h2; exact absurd h2 (by omega)
    | succ z ih_11 =>
      intro i hi_11 hz_11 se e_se
      refine r_iload C dX0_finishedBefore_11 0 rfl ?_
      refine r_aload_n C dX0_finishedBefore_13 3 rfl ?_
      refine r_get C clX0 dX0_finishedBefore_14 1 3 rfl (by decide) q_103 rfl ?_
      refine r_icmp_ge C dX0_finishedBefore_17 (tgt := 44) (by decide) (fun c_1 => ?_) (fun c_1 => ?_)
      · have n_2 := (nI_leI (a := ml) (b := i) (by omega) (by omega)).mp c_1
        have ex_11 : ml = i := by omega
        subst ex_11
        subst e_se
        refine r_iload_n C dX0_finishedBefore_44 1 rfl ?_
        refine r_ws [1, 0, 2] (ws2 := [(p0, .inr (0, [.ref p1, .ref p2, .ref p3, .int (nI ml), .int tc, .int bl])), (p1, .inl (cI, 10, .inl fe)), (p3, .inl (cI, 10, .inl to))]) rfl rfl ?_
        exact r_iret C E dX0_finishedBefore_45 (nle rfl) (nle rfl) ⟨rfl, rfl⟩
      · have n_2 := mt (nI_leI (a := ml) (b := i) (by omega) (by omega)).mpr c_1
        refine r_aload_n C dX0_finishedBefore_20 3 rfl ?_
        refine r_get C clX0 dX0_finishedBefore_21 1 0 rfl (by decide) q_100 rfl ?_
        refine r_iload C dX0_finishedBefore_24 0 rfl ?_
        refine r_iald C dX0_finishedBefore_26 0 rfl i rfl (by omega) (by decide) ?_
        refine r_iload_n C dX0_finishedBefore_27 2 rfl ?_
        have J_5 : ∀ (v_4 : Int32), v_4 = (if (tbF to dp) < (fe i) then se else (se ||| (1 <<< (nI i &&& 31)))) → Wr G 0 0 38 [(4, .int (nI i)), (3, .int v_4), (2, .int (tbF to dp)), (0, .ref p0), (1, .int (nI dp))] [] [(p1, .inl (cI, 10, .inl fe)), (p0, .inr (0, [.ref p1, .ref p2, .ref p3, .int (nI ml), .int tc, .int bl])), (p3, .inl (cI, 10, .inl to))] := by
          intro v_4 ev_4
          subst ev_4
          refine r_iinc C dX0_finishedBefore_38 0 rfl (v := nI (i + 1)) (nI_1 _) (by decide) (lv2 := [(4, .int (nI (i + 1))), (3, .int (if (tbF to dp) < (fe i) then se else (se ||| (1 <<< (nI i &&& 31))))), (2, .int (tbF to dp)), (0, .ref p0), (1, .int (nI dp))]) rfl ?_
          refine r_goto C dX0_finishedBefore_41 (tgt := 11) (by decide) ?_
          exact ih_11 (i + 1) (by omega) (by omega) _ (by subst e_se; rfl) 
        refine r_icmp_gt C dX0_finishedBefore_28 (tgt := 38) (by decide) (fun c_3 => ?_) (fun c_3 => ?_)
        · exact J_5 _ (by first | rfl | simp only [if_pos c_3])
        · refine r_iload_n C dX0_finishedBefore_31 1 rfl ?_
          refine r_iconst C dX0_finishedBefore_32 (v := 1) (by decide) ?_
          refine r_iload C dX0_finishedBefore_33 0 rfl ?_
          refine r_ishl C dX0_finishedBefore_35 ?_
          refine r_ior C dX0_finishedBefore_36 ?_
          refine r_istore_n C dX0_finishedBefore_37 (lv2 := [(3, .int (se ||| (1 <<< (nI i &&& 31)))), (4, .int (nI i)), (2, .int (tbF to dp)), (0, .ref p0), (1, .int (nI dp))]) (by decide) rfl ?_
          refine r_lv [1, 0, 2, 3, 4] (lv2 := [(4, .int (nI i)), (3, .int (se ||| (1 <<< (nI i &&& 31)))), (2, .int (tbF to dp)), (0, .ref p0), (1, .int (nI dp))]) rfl ?_
          exact J_5 _ (by first | rfl | simp only [if_neg c_3])
  exact L_11 (ml + 1) 0 (by omega) (by omega) _ rfl 
set_option maxHeartbeats 4000000 in
set_option maxRecDepth 100000 in
/-- make(plate, targets) -/
theorem c_X0_make (l : Launch) (D : va_G) (cI cR : ClassId) (p0 : Nat) (p1 : Nat) (p2 : Nat) (p3 : Nat) (fe : Nat → Int32) (mo : Nat → Int32) (to : Nat → Int32) (ml : Nat) (tc : Int32) (bl : Int32) (h0 : Nat) (a1 : Nat) (a2 : Nat) (a3 : Nat) (d : Nat → Int32) (nl : Nat) (va : Int32) (sg : Int32) (pr : Nat) (sn : Int32) (wk : Int32) (ag : Nat) (tg : Nat → Int32) (hnl : nl ≤ 10) : Ctr l D cI cR yX0_make cX0_make 5 none ({ frames := 2, cells := 0, slots := 0, locals := 47 }) [.ref p0, .ref h0, .ref ag] [(p0, .inr (0, [.ref p1, .ref p2, .ref p3, .int (nI ml), .int tc, .int bl])), (p1, .inl (cI, 10, .inl fe)), (p2, .inl (cI, 10, .inl mo)), (p3, .inl (cI, 10, .inl to)), (h0, .inr (1, [.ref a1, .ref a2, .ref a3, .int (nI nl), .int va, .int sg, .int (nI pr), .int sn, .int wk])), (a1, .inl (cI, 10, .inl d)), (ag, .inl (cI, 10, .inl tg))] (rP none [(p0, .inr (0, [.ref p1, .ref p2, .ref p3, .int (nI nl), .int (nI (mkC d tg sg fe mo nl)), .int (mkB d tg sg nl)])), (p1, .inl (cI, 10, .inl (mkE d tg sg fe nl))), (p2, .inl (cI, 10, .inl (mkM d tg sg mo nl))), (p3, .inl (cI, 10, .inl (mkT d tg sg fe mo to nl))), (h0, .inr (1, [.ref a1, .ref a2, .ref a3, .int (nI nl), .int va, .int sg, .int (nI pr), .int sn, .int wk])), (a1, .inl (cI, 10, .inl d)), (ag, .inl (cI, 10, .inl tg))]) := by
  refine ctr_of (lv0 := [(0, .ref p0), (1, .ref h0), (2, .ref ag)]) (by decide) (nle rfl) rfl (fun G C E => ?_)
  refine r_aload_n C dX0_make_0 0 rfl ?_
  refine r_aload_n C dX0_make_1 1 rfl ?_
  refine r_get C clX1 dX0_make_2 4 3 rfl (by decide) q_62 rfl ?_
  refine r_put C clX0 dX0_make_5 0 3 rfl (by decide) q_103 rfl rfl rfl (nle rfl) (ws2 := [(p0, .inr (0, [.ref p1, .ref p2, .ref p3, .int (nI nl), .int tc, .int bl])), (p1, .inl (cI, 10, .inl fe)), (p2, .inl (cI, 10, .inl mo)), (p3, .inl (cI, 10, .inl to)), (h0, .inr (1, [.ref a1, .ref a2, .ref a3, .int (nI nl), .int va, .int sg, .int (nI pr), .int sn, .int wk])), (a1, .inl (cI, 10, .inl d)), (ag, .inl (cI, 10, .inl tg))]) rfl ?_
  refine r_aload_n C dX0_make_8 0 rfl ?_
  refine r_iconst C dX0_make_9 (v := 0) (by decide) ?_
  refine r_put C clX0 dX0_make_10 0 5 rfl (by decide) q_106 rfl rfl rfl (nle rfl) (ws2 := [(p0, .inr (0, [.ref p1, .ref p2, .ref p3, .int (nI nl), .int tc, .int 0])), (p1, .inl (cI, 10, .inl fe)), (p2, .inl (cI, 10, .inl mo)), (p3, .inl (cI, 10, .inl to)), (h0, .inr (1, [.ref a1, .ref a2, .ref a3, .int (nI nl), .int va, .int sg, .int (nI pr), .int sn, .int wk])), (a1, .inl (cI, 10, .inl d)), (ag, .inl (cI, 10, .inl tg))]) rfl ?_
  refine r_iconst C dX0_make_13 (v := 0) (by decide) ?_
  refine r_istore_n C dX0_make_14 (lv2 := [(3, .int 0), (0, .ref p0), (1, .ref h0), (2, .ref ag)]) (by decide) rfl ?_
  have L_15 : ∀ (z i : Nat), i ≤ nl → nl < i + z → ∀ (f : Nat → Int32) (g : Nat → Int32) (bb : Int32), f = mkE d tg sg fe i → g = mkM d tg sg mo i → bb = mkB d tg sg i → Wr G 0 0 15 [(3, .int (nI i)), (0, .ref p0), (1, .ref h0), (2, .ref ag)] [] [(p0, .inr (0, [.ref p1, .ref p2, .ref p3, .int (nI nl), .int tc, .int bb])), (p1, .inl (cI, 10, .inl f)), (p2, .inl (cI, 10, .inl g)), (p3, .inl (cI, 10, .inl to)), (h0, .inr (1, [.ref a1, .ref a2, .ref a3, .int (nI nl), .int va, .int sg, .int (nI pr), .int sn, .int wk])), (a1, .inl (cI, 10, .inl d)), (ag, .inl (cI, 10, .inl tg))] := by
    intro z
    induction z with
    | zero => intro i h1 h2; exact absurd h2 (by omega)
    | succ z ih_15 =>
      intro i hi_15 hz_15 f g bb e_f e_g e_bb
      refine r_iload_n C dX0_make_15 0 rfl ?_
      refine r_aload_n C dX0_make_16 1 rfl ?_
      refine r_get C clX0 dX0_make_17 0 3 rfl (by decide) q_103 rfl ?_
      refine r_icmp_ge C dX0_make_20 (tgt := 106) (by decide) (fun c_1 => ?_) (fun c_1 => ?_)
      · have n_2 := (nI_leI (a := nl) (b := i) (by omega) (by omega)).mp c_1
        have ex_15 : nl = i := by omega
        subst ex_15
        subst e_f
        subst e_g
        subst e_bb
        refine r_aload_n C dX0_make_106 1 rfl ?_
        refine r_iconst C dX0_make_107 (v := 0) (by decide) ?_
        refine r_put C clX0 dX0_make_108 0 4 rfl (by decide) q_104 rfl rfl rfl (nle rfl) (ws2 := [(p0, .inr (0, [.ref p1, .ref p2, .ref p3, .int (nI nl), .int 0, .int (mkB d tg sg nl)])), (p1, .inl (cI, 10, .inl (mkE d tg sg fe nl))), (p2, .inl (cI, 10, .inl (mkM d tg sg mo nl))), (p3, .inl (cI, 10, .inl to)), (h0, .inr (1, [.ref a1, .ref a2, .ref a3, .int (nI nl), .int va, .int sg, .int (nI pr), .int sn, .int wk])), (a1, .inl (cI, 10, .inl d)), (ag, .inl (cI, 10, .inl tg))]) rfl ?_
        refine r_aload_n C dX0_make_111 1 rfl ?_
        refine r_get C clX0 dX0_make_112 0 5 rfl (by decide) q_106 rfl ?_
        have J_6 : ∀ (v_4 : Int32) (f_5 : Nat → Int32), v_4 = (if (mkB d tg sg nl) = 0 then (nI (chN (mkE d tg sg fe nl) (mkM d tg sg mo nl) nl)) else 0) → f_5 = (if (mkB d tg sg nl) = 0 then (chA (mkE d tg sg fe nl) (mkM d tg sg mo nl) nl to (chN (mkE d tg sg fe nl) (mkM d tg sg mo nl) nl)) else to) → Wr G 0 0 122 [(3, .int (nI nl)), (0, .ref p0), (1, .ref h0), (2, .ref ag)] [] [(p0, .inr (0, [.ref p1, .ref p2, .ref p3, .int (nI nl), .int v_4, .int (mkB d tg sg nl)])), (p1, .inl (cI, 10, .inl (mkE d tg sg fe nl))), (p2, .inl (cI, 10, .inl (mkM d tg sg mo nl))), (p3, .inl (cI, 10, .inl f_5)), (h0, .inr (1, [.ref a1, .ref a2, .ref a3, .int (nI nl), .int va, .int sg, .int (nI pr), .int sn, .int wk])), (a1, .inl (cI, 10, .inl d)), (ag, .inl (cI, 10, .inl tg))] := by
          intro v_4 f_5 ev_4 ef_5
          subst ev_4
          subst ef_5
          exact r_vret C E dX0_make_122 (nle rfl) (nle rfl) ⟨rfl, by first | rfl | (unfold mkC mkT; split <;> rfl)⟩
        refine r_if_ne C dX0_make_115 (tgt := 122) (by decide) (fun c_3 => ?_) (fun c_3 => ?_)
        · exact J_6 _ _ (by first | rfl | simp only [if_neg c_3]) (by first | rfl | simp only [if_neg c_3])
        · refine r_aload_n C dX0_make_118 1 rfl ?_
          refine r_callV C (As := []) (rest := []) (wr := [(h0, .inr (1, [.ref a1, .ref a2, .ref a3, .int (nI nl), .int va, .int sg, .int (nI pr), .int sn, .int wk])), (a1, .inl (cI, 10, .inl d)), (ag, .inl (cI, 10, .inl tg))]) (c_X0_chooseTotals l D cI cR p0 p1 p2 p3 (mkE d tg sg fe nl) (mkM d tg sg mo nl) to nl (mkB d tg sg nl) (by omega)) k_X0_chooseTotals rfl dX0_make_119 q_328 q_330 q_7 ⟨nle rfl, nle rfl⟩ [0, 1, 2, 3] [4, 5, 6] rfl rfl rfl rfl (by decide) 0 rfl rfl rfl (nle rfl) ⟨nle rfl, nle rfl⟩ (r_fin (st2 := []) (ws2 := [(h0, .inr (1, [.ref a1, .ref a2, .ref a3, .int (nI nl), .int va, .int sg, .int (nI pr), .int sn, .int wk])), (a1, .inl (cI, 10, .inl d)), (ag, .inl (cI, 10, .inl tg)), (p0, .inr (0, [.ref p1, .ref p2, .ref p3, .int (nI nl), .int (nI (chN (mkE d tg sg fe nl) (mkM d tg sg mo nl) nl)), .int (mkB d tg sg nl)])), (p1, .inl (cI, 10, .inl (mkE d tg sg fe nl))), (p2, .inl (cI, 10, .inl (mkM d tg sg mo nl))), (p3, .inl (cI, 10, .inl (chA (mkE d tg sg fe nl) (mkM d tg sg mo nl) nl to (chN (mkE d tg sg fe nl) (mkM d tg sg mo nl) nl))))]) rfl rfl ?_)
          refine r_ws [3, 4, 5, 6, 0, 1, 2] (ws2 := [(p0, .inr (0, [.ref p1, .ref p2, .ref p3, .int (nI nl), .int (nI (chN (mkE d tg sg fe nl) (mkM d tg sg mo nl) nl)), .int (mkB d tg sg nl)])), (p1, .inl (cI, 10, .inl (mkE d tg sg fe nl))), (p2, .inl (cI, 10, .inl (mkM d tg sg mo nl))), (p3, .inl (cI, 10, .inl (chA (mkE d tg sg fe nl) (mkM d tg sg mo nl) nl to (chN (mkE d tg sg fe nl) (mkM d tg sg mo nl) nl)))), (h0, .inr (1, [.ref a1, .ref a2, .ref a3, .int (nI nl), .int va, .int sg, .int (nI pr), .int sn, .int wk])), (a1, .inl (cI, 10, .inl d)), (ag, .inl (cI, 10, .inl tg))]) rfl rfl ?_
          exact J_6 _ _ (by first | rfl | simp only [if_pos c_3]) (by first | rfl | simp only [if_pos c_3])
      · have n_2 := mt (nI_leI (a := nl) (b := i) (by omega) (by omega)).mpr c_1
        refine r_bipush C dX0_make_23 (v := 10) (by decide) ?_
        refine r_aload_n C dX0_make_25 3 rfl ?_
        refine r_iload_n C dX0_make_26 0 rfl ?_
        refine r_iald C dX0_make_27 6 rfl i rfl (by omega) (by decide) ?_
        refine r_imul C dX0_make_28 ?_
        refine r_aload_n C dX0_make_29 2 rfl ?_
        refine r_get C clX1 dX0_make_30 4 0 rfl (by decide) q_56 rfl ?_
        refine r_iload_n C dX0_make_33 0 rfl ?_
        refine r_iald C dX0_make_34 5 rfl i rfl (by omega) (by decide) ?_
        refine r_isub C dX0_make_35 ?_
        refine r_istore C dX0_make_36 (lv2 := [(4, .int ((10 * (tg i)) - (d i))), (3, .int (nI i)), (0, .ref p0), (1, .ref h0), (2, .ref ag)]) (by decide) rfl ?_
        refine r_aload_n C dX0_make_38 2 rfl ?_
        refine r_get C clX0 dX0_make_39 0 0 rfl (by decide) q_100 rfl ?_
        refine r_iload_n C dX0_make_42 1 rfl ?_
        refine r_iload C dX0_make_43 0 rfl ?_
        refine r_aload_n C dX0_make_45 3 rfl ?_
        refine r_get C clX1 dX0_make_46 4 5 rfl (by decide) q_67 rfl ?_
        refine r_callS C (As := [.int ((10 * (tg i)) - (d i)), .int sg]) (rest := [.int (nI i), .ref p1]) (wr := [(p0, .inr (0, [.ref p1, .ref p2, .ref p3, .int (nI nl), .int tc, .int bb])), (p1, .inl (cI, 10, .inl f)), (p2, .inl (cI, 10, .inl g)), (p3, .inl (cI, 10, .inl to)), (h0, .inr (1, [.ref a1, .ref a2, .ref a3, .int (nI nl), .int va, .int sg, .int (nI pr), .int sn, .int wk])), (a1, .inl (cI, 10, .inl d)), (ag, .inl (cI, 10, .inl tg))]) (c_X0_fewestMinutes l D cI cR ((10 * (tg i)) - (d i)) sg ) k_X0_fewestMinutes rfl dX0_make_49 q_321 q_322 ⟨nle rfl, nle rfl⟩ [] [0, 1, 2, 3, 4, 5, 6] rfl rfl rfl rfl (by decide) rfl (nle rfl) ⟨nle rfl, nle rfl⟩ (r_fin (st2 := [.int (fwF ((10 * (tg i)) - (d i)) sg), .int (nI i), .ref p1]) (ws2 := [(p0, .inr (0, [.ref p1, .ref p2, .ref p3, .int (nI nl), .int tc, .int bb])), (p1, .inl (cI, 10, .inl f)), (p2, .inl (cI, 10, .inl g)), (p3, .inl (cI, 10, .inl to)), (h0, .inr (1, [.ref a1, .ref a2, .ref a3, .int (nI nl), .int va, .int sg, .int (nI pr), .int sn, .int wk])), (a1, .inl (cI, 10, .inl d)), (ag, .inl (cI, 10, .inl tg))]) rfl rfl ?_)
        refine r_iast C dX0_make_52 1 rfl i rfl (by omega) (by decide) (ws2 := [(p0, .inr (0, [.ref p1, .ref p2, .ref p3, .int (nI nl), .int tc, .int bb])), (p1, .inl (cI, 10, .inl (upd f i (fwF ((10 * (tg i)) - (d i)) sg)))), (p2, .inl (cI, 10, .inl g)), (p3, .inl (cI, 10, .inl to)), (h0, .inr (1, [.ref a1, .ref a2, .ref a3, .int (nI nl), .int va, .int sg, .int (nI pr), .int sn, .int wk])), (a1, .inl (cI, 10, .inl d)), (ag, .inl (cI, 10, .inl tg))]) rfl ?_
        refine r_aload_n C dX0_make_53 2 rfl ?_
        refine r_get C clX0 dX0_make_54 0 1 rfl (by decide) q_101 rfl ?_
        refine r_iload_n C dX0_make_57 1 rfl ?_
        refine r_iload C dX0_make_58 0 rfl ?_
        refine r_bipush C dX0_make_60 (v := 10) (by decide) ?_
        refine r_iadd C dX0_make_62 ?_
        refine r_iconst C dX0_make_63 (v := 1) (by decide) ?_
        refine r_isub C dX0_make_64 ?_
        refine r_aload_n C dX0_make_65 3 rfl ?_
        refine r_get C clX1 dX0_make_66 4 5 rfl (by decide) q_67 rfl ?_
        refine r_callS C (As := [.int ((((10 * (tg i)) - (d i)) + 10) - 1), .int sg]) (rest := [.int (nI i), .ref p2]) (wr := [(p0, .inr (0, [.ref p1, .ref p2, .ref p3, .int (nI nl), .int tc, .int bb])), (p1, .inl (cI, 10, .inl (upd f i (fwF ((10 * (tg i)) - (d i)) sg)))), (p2, .inl (cI, 10, .inl g)), (p3, .inl (cI, 10, .inl to)), (h0, .inr (1, [.ref a1, .ref a2, .ref a3, .int (nI nl), .int va, .int sg, .int (nI pr), .int sn, .int wk])), (a1, .inl (cI, 10, .inl d)), (ag, .inl (cI, 10, .inl tg))]) (c_X0_mostMinutes l D cI cR ((((10 * (tg i)) - (d i)) + 10) - 1) sg ) k_X0_mostMinutes rfl dX0_make_69 q_324 q_325 ⟨nle rfl, nle rfl⟩ [] [0, 1, 2, 3, 4, 5, 6] rfl rfl rfl rfl (by decide) rfl (nle rfl) ⟨nle rfl, nle rfl⟩ (r_fin (st2 := [.int (msF ((((10 * (tg i)) - (d i)) + 10) - 1) sg), .int (nI i), .ref p2]) (ws2 := [(p0, .inr (0, [.ref p1, .ref p2, .ref p3, .int (nI nl), .int tc, .int bb])), (p1, .inl (cI, 10, .inl (upd f i (fwF ((10 * (tg i)) - (d i)) sg)))), (p2, .inl (cI, 10, .inl g)), (p3, .inl (cI, 10, .inl to)), (h0, .inr (1, [.ref a1, .ref a2, .ref a3, .int (nI nl), .int va, .int sg, .int (nI pr), .int sn, .int wk])), (a1, .inl (cI, 10, .inl d)), (ag, .inl (cI, 10, .inl tg))]) rfl rfl ?_)
        refine r_iast C dX0_make_72 2 rfl i rfl (by omega) (by decide) (ws2 := [(p0, .inr (0, [.ref p1, .ref p2, .ref p3, .int (nI nl), .int tc, .int bb])), (p1, .inl (cI, 10, .inl (upd f i (fwF ((10 * (tg i)) - (d i)) sg)))), (p2, .inl (cI, 10, .inl (upd g i (msF ((((10 * (tg i)) - (d i)) + 10) - 1) sg)))), (p3, .inl (cI, 10, .inl to)), (h0, .inr (1, [.ref a1, .ref a2, .ref a3, .int (nI nl), .int va, .int sg, .int (nI pr), .int sn, .int wk])), (a1, .inl (cI, 10, .inl d)), (ag, .inl (cI, 10, .inl tg))]) rfl ?_
        refine r_aload_n C dX0_make_73 2 rfl ?_
        refine r_get C clX0 dX0_make_74 0 0 rfl (by decide) q_100 rfl ?_
        refine r_iload_n C dX0_make_77 1 rfl ?_
        refine r_iald C dX0_make_78 1 rfl i rfl (by omega) (by decide) ?_
        refine r_top (b := (fwF ((10 * (tg i)) - (d i)) sg)) pk_us ?_
        refine r_aload_n C dX0_make_79 2 rfl ?_
        refine r_get C clX0 dX0_make_80 0 1 rfl (by decide) q_101 rfl ?_
        refine r_iload_n C dX0_make_83 1 rfl ?_
        refine r_iald C dX0_make_84 2 rfl i rfl (by omega) (by decide) ?_
        refine r_top (b := (msF ((((10 * (tg i)) - (d i)) + 10) - 1) sg)) pk_us ?_
        have J_9 : ∀ (v_8 : Int32), v_8 = (if (fwF ((10 * (tg i)) - (d i)) sg) ≤ (msF ((((10 * (tg i)) - (d i)) + 10) - 1) sg) then bb else (bb ||| (1 <<< (nI i &&& 31)))) → Wr G 0 0 100 [(4, .int ((10 * (tg i)) - (d i))), (3, .int (nI i)), (0, .ref p0), (1, .ref h0), (2, .ref ag)] [] [(p0, .inr (0, [.ref p1, .ref p2, .ref p3, .int (nI nl), .int tc, .int v_8])), (p1, .inl (cI, 10, .inl (upd f i (fwF ((10 * (tg i)) - (d i)) sg)))), (p2, .inl (cI, 10, .inl (upd g i (msF ((((10 * (tg i)) - (d i)) + 10) - 1) sg)))), (p3, .inl (cI, 10, .inl to)), (h0, .inr (1, [.ref a1, .ref a2, .ref a3, .int (nI nl), .int va, .int sg, .int (nI pr), .int sn, .int wk])), (a1, .inl (cI, 10, .inl d)), (ag, .inl (cI, 10, .inl tg))] := by
          intro v_8 ev_8
          subst ev_8
          refine r_iinc C dX0_make_100 1 rfl (v := nI (i + 1)) (nI_1 _) (by decide) (lv2 := [(3, .int (nI (i + 1))), (4, .int ((10 * (tg i)) - (d i))), (0, .ref p0), (1, .ref h0), (2, .ref ag)]) rfl ?_
          refine r_goto C dX0_make_103 (tgt := 15) (by decide) ?_
          refine r_lv [0, 2, 3, 4] (lv2 := [(3, .int (nI (i + 1))), (0, .ref p0), (1, .ref h0), (2, .ref ag)]) rfl ?_
          exact ih_15 (i + 1) (by omega) (by omega) _ _ _ (by subst e_f; subst e_g; subst e_bb; rfl) (by subst e_f; subst e_g; subst e_bb; rfl) (by subst e_f; subst e_g; subst e_bb; rfl) 
        refine r_icmp_le C dX0_make_85 (tgt := 100) (by decide) (fun c_7 => ?_) (fun c_7 => ?_)
        · exact J_9 _ (by first | rfl | simp only [if_pos c_7])
        · refine r_aload_n C dX0_make_88 2 rfl ?_
          refine r_dup C dX0_make_89 rfl ?_
          refine r_get C clX0 dX0_make_90 0 5 rfl (by decide) q_106 rfl ?_
          refine r_iconst C dX0_make_93 (v := 1) (by decide) ?_
          refine r_iload_n C dX0_make_94 1 rfl ?_
          refine r_ishl C dX0_make_95 ?_
          refine r_ior C dX0_make_96 ?_
          refine r_put C clX0 dX0_make_97 0 5 rfl (by decide) q_106 rfl rfl rfl (nle rfl) (ws2 := [(p0, .inr (0, [.ref p1, .ref p2, .ref p3, .int (nI nl), .int tc, .int (bb ||| (1 <<< (nI i &&& 31)))])), (p1, .inl (cI, 10, .inl (upd f i (fwF ((10 * (tg i)) - (d i)) sg)))), (p2, .inl (cI, 10, .inl (upd g i (msF ((((10 * (tg i)) - (d i)) + 10) - 1) sg)))), (p3, .inl (cI, 10, .inl to)), (h0, .inr (1, [.ref a1, .ref a2, .ref a3, .int (nI nl), .int va, .int sg, .int (nI pr), .int sn, .int wk])), (a1, .inl (cI, 10, .inl d)), (ag, .inl (cI, 10, .inl tg))]) rfl ?_
          exact J_9 _ (by first | rfl | simp only [if_neg c_7])
  exact L_15 (nl + 1) 0 (by omega) (by omega) _ _ _ rfl rfl rfl 
end
section
theorem zz_1 : True := trivial
end
