/-! what the walks use beside the rows: functional contracts, numbers, the classes, the methods that are called -/
def rP (r : Option Value) (w : va_W) : Option Value → va_W → Prop := fun v w2 => v = r ∧ w2 = w
theorem r_fin {G : Cxt} {k n pc2 : Nat} {lv : List (Nat × Value)} {r : Option Value} {w wr ws2 : va_W} {rest st2 : List Value} (h1 : r.toList ++ rest = st2) (h2 : wr ++ w = ws2) (kk : Wr G k n pc2 lv st2 ws2) : ∀ (v : Option Value) (w2 : va_W), rP r w v w2 → Wr G (k + 0) (n + 0) pc2 lv (v.toList ++ rest) (wr ++ w2) := by
  rintro v w2 ⟨rfl, rfl⟩
  subst h1
  subst h2
  exact kk
theorem r_top {G : Cxt} {k n pc : Nat} {lv : List (Nat × Value)} {st : List Value} {ws : va_W} {a b : Int32} (h : a = b) (kk : Wr G k n pc lv (.int b :: st) ws) : Wr G k n pc lv (.int a :: st) ws := h ▸ kk
theorem nle {a b : Nat} (h : Nat.ble a b = true) : a ≤ b := Nat.le_of_ble_eq_true h
theorem nA {a b : Int32} {x y : Nat} (ha : a = nI x) (hb : b = nI y) : a + b = nI (x + y) := by rw [ha, hb]; exact nI_add x y
theorem nM {a b : Int32} {x y : Nat} (ha : a = nI x) (hb : b = nI y) : a * b = nI (x * y) := by rw [ha, hb]; exact pk_mul x y
theorem clX0_w : ∀ w ∈ u_ws RX0 TX0 6, w ∈ lw_g := by
  show ∀ w ∈ [Cond.laysFinal "EtchedPlate$Plan" "EtchedPlate$Plan" "fewest" "[I", Cond.laysFinal "EtchedPlate$Plan" "EtchedPlate$Plan" "most" "[I", Cond.laysFinal "EtchedPlate$Plan" "EtchedPlate$Plan" "totals" "[I", Cond.lays "EtchedPlate$Plan" "EtchedPlate$Plan" "lineCount" "I", Cond.lays "EtchedPlate$Plan" "EtchedPlate$Plan" "totalCount" "I", Cond.lays "EtchedPlate$Plan" "EtchedPlate$Plan" "blockedLines" "I"], w ∈ lw_g
  exact List.forall_mem_cons.mpr ⟨q_108, List.forall_mem_cons.mpr ⟨q_110, List.forall_mem_cons.mpr ⟨q_112, List.forall_mem_cons.mpr ⟨q_114, List.forall_mem_cons.mpr ⟨q_116, List.forall_mem_cons.mpr ⟨q_118, fun _ h => absurd h List.not_mem_nil⟩⟩⟩⟩⟩⟩
theorem clX0 : ClsOk RX0 TX0 6 tyX0 0 := ⟨clX0_w, tyX0_ok, nmX0, rfl, by decide +kernel⟩
theorem clX1_w : ∀ w ∈ u_ws RX1 TX1 9, w ∈ lw_g := by
  show ∀ w ∈ [Cond.laysFinal "EtchedPlate$Plate" "EtchedPlate$Plate" "depths" "[I", Cond.laysFinal "EtchedPlate$Plate" "EtchedPlate$Plate" "printStates" "[I", Cond.laysFinal "EtchedPlate$Plate" "EtchedPlate$Plate" "printTones" "[I", Cond.lays "EtchedPlate$Plate" "EtchedPlate$Plate" "lineCount" "I", Cond.lays "EtchedPlate$Plate" "EtchedPlate$Plate" "varnishedLines" "I", Cond.lays "EtchedPlate$Plate" "EtchedPlate$Plate" "strength" "I", Cond.lays "EtchedPlate$Plate" "EtchedPlate$Plate" "printCount" "I", Cond.lays "EtchedPlate$Plate" "EtchedPlate$Plate" "stateNumber" "I", Cond.lays "EtchedPlate$Plate" "EtchedPlate$Plate" "workedSincePrint" "Z"], w ∈ lw_g
  exact List.forall_mem_cons.mpr ⟨q_73, List.forall_mem_cons.mpr ⟨q_75, List.forall_mem_cons.mpr ⟨q_77, List.forall_mem_cons.mpr ⟨q_79, List.forall_mem_cons.mpr ⟨q_81, List.forall_mem_cons.mpr ⟨q_83, List.forall_mem_cons.mpr ⟨q_85, List.forall_mem_cons.mpr ⟨q_87, List.forall_mem_cons.mpr ⟨q_89, fun _ h => absurd h List.not_mem_nil⟩⟩⟩⟩⟩⟩⟩⟩⟩
theorem clX1 : ClsOk RX1 TX1 9 tyX1 1 := ⟨clX1_w, tyX1_ok, nmX1, rfl, by decide +kernel⟩
theorem clX2_w : ∀ w ∈ u_ws RX2 TX2 6, w ∈ lw_g := by
  show ∀ w ∈ [Cond.laysFinal "EtchedPlate" "EtchedPlate" "now" "LEtchedPlate$Plate;", Cond.laysFinal "EtchedPlate" "EtchedPlate" "saved" "[LEtchedPlate$Plate;", Cond.laysFinal "EtchedPlate" "EtchedPlate" "plan" "LEtchedPlate$Plan;", Cond.laysFinal "EtchedPlate" "EtchedPlate" "targets" "[I", Cond.laysFinal "EtchedPlate" "EtchedPlate" "errors" "[I", Cond.lays "EtchedPlate" "EtchedPlate" "savedCount" "I"], w ∈ lw_g
  exact List.forall_mem_cons.mpr ⟨q_127, List.forall_mem_cons.mpr ⟨q_129, List.forall_mem_cons.mpr ⟨q_131, List.forall_mem_cons.mpr ⟨q_133, List.forall_mem_cons.mpr ⟨q_135, List.forall_mem_cons.mpr ⟨q_137, fun _ h => absurd h List.not_mem_nil⟩⟩⟩⟩⟩⟩
theorem clX2 : ClsOk RX2 TX2 6 tyX2 2 := ⟨clX2_w, tyX2_ok, nmX2, rfl, by decide +kernel⟩
theorem clX3_w : ∀ w ∈ u_ws RX3 TX3 11, w ∈ lw_g := by
  show ∀ w ∈ [Cond.laysFinal "EtchedPlateModel" "EtchedPlateModel" "now" "[I", Cond.laysFinal "EtchedPlateModel" "EtchedPlateModel" "past" "[I", Cond.lays "EtchedPlateModel" "EtchedPlateModel" "saved" "I", Cond.laysFinal "EtchedPlateModel" "EtchedPlateModel" "errors" "[I", Cond.laysFinal "EtchedPlateModel" "EtchedPlateModel" "target" "[I", Cond.laysFinal "EtchedPlateModel" "EtchedPlateModel" "ways" "[I", Cond.laysFinal "EtchedPlateModel" "EtchedPlateModel" "ahead" "[I", Cond.laysFinal "EtchedPlateModel" "EtchedPlateModel" "totals" "[I", Cond.laysFinal "EtchedPlateModel" "EtchedPlateModel" "uses" "[I", Cond.lays "EtchedPlateModel" "EtchedPlateModel" "totalMany" "I", Cond.lays "EtchedPlateModel" "EtchedPlateModel" "hash" "J"], w ∈ lw_g
  exact List.forall_mem_cons.mpr ⟨q_410, List.forall_mem_cons.mpr ⟨q_412, List.forall_mem_cons.mpr ⟨q_414, List.forall_mem_cons.mpr ⟨q_416, List.forall_mem_cons.mpr ⟨q_418, List.forall_mem_cons.mpr ⟨q_420, List.forall_mem_cons.mpr ⟨q_422, List.forall_mem_cons.mpr ⟨q_424, List.forall_mem_cons.mpr ⟨q_426, List.forall_mem_cons.mpr ⟨q_428, List.forall_mem_cons.mpr ⟨q_430, fun _ h => absurd h List.not_mem_nil⟩⟩⟩⟩⟩⟩⟩⟩⟩⟩⟩
theorem clX3 : ClsOk RX3 TX3 11 tyX3 3 := ⟨clX3_w, tyX3_ok, nmX3, rfl, by decide +kernel⟩
theorem k_X0_init : CalOk yX0_init cX0_init 1 none 0 := ⟨q_35, q_98, by decide +kernel⟩
theorem k_X0_make : CalOk yX0_make cX0_make 5 none 2 := ⟨q_35, q_320, by decide +kernel⟩
theorem k_X0_fewestMinutes : CalOk yX0_fewestMinutes cX0_fewestMinutes 2 (some .int) 2 := ⟨q_35, q_323, by decide +kernel⟩
theorem k_X0_mostMinutes : CalOk yX0_mostMinutes cX0_mostMinutes 2 (some .int) 2 := ⟨q_35, q_326, by decide +kernel⟩
theorem k_X0_chooseTotals : CalOk yX0_chooseTotals cX0_chooseTotals 4 none 0 := ⟨q_35, q_331, by decide +kernel⟩
theorem k_X0_nextTotal : CalOk yX0_nextTotal cX0_nextTotal 4 (some .int) 1 := ⟨q_35, q_335, by decide +kernel⟩
theorem k_X0_totalBefore : CalOk yX0_totalBefore cX0_totalBefore 2 (some .int) 1 := ⟨q_35, q_351, by decide +kernel⟩
theorem k_X0_minutesAt : CalOk yX0_minutesAt cX0_minutesAt 2 (some .int) 1 := ⟨q_35, q_347, by decide +kernel⟩
theorem k_X0_finishedBefore : CalOk yX0_finishedBefore cX0_finishedBefore 5 (some .int) 1 := ⟨q_35, q_359, by decide +kernel⟩
theorem k_X1_init : CalOk yX1_init cX1_init 1 none 0 := ⟨q_34, q_53, by decide +kernel⟩
theorem k_X1_copyFrom : CalOk yX1_copyFrom cX1_copyFrom 2 none 1 := ⟨q_34, q_159, by decide +kernel⟩
theorem k_X1_addLine : CalOk yX1_addLine cX1_addLine 2 (some .int) 0 := ⟨q_34, q_166, by decide +kernel⟩
theorem k_X1_etch : CalOk yX1_etch cX1_etch 5 (some .int) 1 := ⟨q_34, q_178, by decide +kernel⟩
theorem k_X1_rubDown : CalOk yX1_rubDown cX1_rubDown 3 (some .int) 2 := ⟨q_34, q_216, by decide +kernel⟩
theorem k_X1_addPrint : CalOk yX1_addPrint cX1_addPrint 4 (some .int) 0 := ⟨q_34, q_227, by decide +kernel⟩
theorem k_X1_wear : CalOk yX1_wear cX1_wear 2 none 0 := ⟨q_34, q_231, by decide +kernel⟩
theorem k_X1_depthSum : CalOk yX1_depthSum cX1_depthSum 3 (some .int) 0 := ⟨q_34, q_251, by decide +kernel⟩
theorem k_X1_printedTone : CalOk yX1_printedTone cX1_printedTone 3 (some .int) 2 := ⟨q_34, q_275, by decide +kernel⟩
theorem k_X1_nowhereDarker : CalOk yX1_nowhereDarker cX1_nowhereDarker 4 (some .boolean) 2 := ⟨q_34, q_283, by decide +kernel⟩
theorem k_X1_countOrders : CalOk yX1_countOrders cX1_countOrders 4 (some .int) 1 := ⟨q_34, q_292, by decide +kernel⟩
theorem k_X1_placesAmongLikes : CalOk yX1_placesAmongLikes cX1_placesAmongLikes 7 (some .int) 2 := ⟨q_34, q_296, by decide +kernel⟩
theorem k_X1_differenceFrom : CalOk yX1_differenceFrom cX1_differenceFrom 5 (some .int) 2 := ⟨q_34, q_305, by decide +kernel⟩
theorem k_X2_init : CalOk yX2_init cX2_init 2 none 0 := ⟨q_33, q_45, by decide +kernel⟩
theorem k_X2_draw : CalOk yX2_draw cX2_draw 1 (some .int) 0 := ⟨q_33, q_143, by decide +kernel⟩
theorem k_X2_setStrength : CalOk yX2_setStrength cX2_setStrength 3 (some .int) 1 := ⟨q_33, q_170, by decide +kernel⟩
theorem k_X2_dip : CalOk yX2_dip cX2_dip 2 (some .int) 1 := ⟨q_33, q_174, by decide +kernel⟩
theorem k_X2_varnish : CalOk yX2_varnish cX2_varnish 2 (some .int) 1 := ⟨q_33, q_188, by decide +kernel⟩
theorem k_X2_clean : CalOk yX2_clean cX2_clean 2 (some .int) 0 := ⟨q_33, q_204, by decide +kernel⟩
theorem k_X2_burnish : CalOk yX2_burnish cX2_burnish 3 (some .int) 2 := ⟨q_33, q_208, by decide +kernel⟩
theorem k_X2_pull : CalOk yX2_pull cX2_pull 1 (some .int) 0 := ⟨q_33, q_223, by decide +kernel⟩
theorem k_X2_lines : CalOk yX2_lines cX2_lines 1 (some .int) 0 := ⟨q_33, q_235, by decide +kernel⟩
theorem k_X2_depth : CalOk yX2_depth cX2_depth 2 (some .int) 1 := ⟨q_33, q_239, by decide +kernel⟩
theorem k_X2_varnished : CalOk yX2_varnished cX2_varnished 1 (some .int) 0 := ⟨q_33, q_243, by decide +kernel⟩
theorem k_X2_meanDepthBits : CalOk yX2_meanDepthBits cX2_meanDepthBits 2 (some .int) 0 := ⟨q_33, q_247, by decide +kernel⟩
theorem k_X2_prints : CalOk yX2_prints cX2_prints 1 (some .int) 0 := ⟨q_33, q_259, by decide +kernel⟩
theorem k_X2_stateOf : CalOk yX2_stateOf cX2_stateOf 2 (some .int) 1 := ⟨q_33, q_263, by decide +kernel⟩
theorem k_X2_tone : CalOk yX2_tone cX2_tone 3 (some .int) 2 := ⟨q_33, q_271, by decide +kernel⟩
theorem k_X2_mayPrecede : CalOk yX2_mayPrecede cX2_mayPrecede 3 (some .int) 2 := ⟨q_33, q_279, by decide +kernel⟩
theorem k_X2_orders : CalOk yX2_orders cX2_orders 2 (some .int) 1 := ⟨q_33, q_288, by decide +kernel⟩
theorem k_X2_bestState : CalOk yX2_bestState cX2_bestState 5 (some .int) 0 := ⟨q_33, q_301, by decide +kernel⟩
theorem k_X2_setTarget : CalOk yX2_setTarget cX2_setTarget 4 (some .int) 2 := ⟨q_33, q_312, by decide +kernel⟩
theorem k_X2_dips : CalOk yX2_dips cX2_dips 1 (some .int) 0 := ⟨q_33, q_316, by decide +kernel⟩
theorem k_X2_dipMinutes : CalOk yX2_dipMinutes cX2_dipMinutes 3 (some .int) 1 := ⟨q_33, q_339, by decide +kernel⟩
theorem k_X2_dipVarnish : CalOk yX2_dipVarnish cX2_dipVarnish 3 (some .int) 1 := ⟨q_33, q_355, by decide +kernel⟩
theorem k_X2_obstacles : CalOk yX2_obstacles cX2_obstacles 1 (some .int) 0 := ⟨q_33, q_363, by decide +kernel⟩
theorem k_X2_undo : CalOk yX2_undo cX2_undo 1 (some .int) 0 := ⟨q_33, q_367, by decide +kernel⟩
theorem k_X2_errorCount : CalOk yX2_errorCount cX2_errorCount 2 (some .int) 1 := ⟨q_33, q_371, by decide +kernel⟩
theorem k_X2_digest : CalOk yX2_digest cX2_digest 4 (some .long) 0 := ⟨q_33, q_375, by decide +kernel⟩
theorem k_X2_mix : CalOk yX2_mix cX2_mix 3 (some .long) 2 := ⟨q_33, q_379, by decide +kernel⟩
theorem k_X2_mixLines : CalOk yX2_mixLines cX2_mixLines 6 (some .long) 1 := ⟨q_33, q_384, by decide +kernel⟩
theorem k_X2_mixPrints : CalOk yX2_mixPrints cX2_mixPrints 7 (some .long) 1 := ⟨q_33, q_388, by decide +kernel⟩
theorem k_X2_mixPlan : CalOk yX2_mixPlan cX2_mixPlan 6 (some .long) 1 := ⟨q_33, q_392, by decide +kernel⟩
theorem k_X2_refuse : CalOk yX2_refuse cX2_refuse 2 (some .int) 1 := ⟨q_33, q_147, by decide +kernel⟩
theorem k_X2_faultOfDip : CalOk yX2_faultOfDip cX2_faultOfDip 2 (some .int) 1 := ⟨q_33, q_343, by decide +kernel⟩
theorem k_X2_isLine : CalOk yX2_isLine cX2_isLine 2 (some .boolean) 1 := ⟨q_33, q_212, by decide +kernel⟩
theorem k_X2_isPrint : CalOk yX2_isPrint cX2_isPrint 2 (some .boolean) 1 := ⟨q_33, q_267, by decide +kernel⟩
theorem k_X2_allBelow : CalOk yX2_allBelow cX2_allBelow 1 (some .int) 1 := ⟨q_33, q_194, by decide +kernel⟩
theorem k_X2_isSetBelow : CalOk yX2_isSetBelow cX2_isSetBelow 2 (some .boolean) 2 := ⟨q_33, q_191, by decide +kernel⟩
theorem k_X2_contains : CalOk yX2_contains cX2_contains 2 (some .boolean) 2 := ⟨q_33, q_181, by decide +kernel⟩
theorem k_X2_save : CalOk yX2_save cX2_save 1 none 0 := ⟨q_33, q_151, by decide +kernel⟩
theorem k_X2_dropOldest : CalOk yX2_dropOldest cX2_dropOldest 3 none 0 := ⟨q_33, q_155, by decide +kernel⟩
theorem k_X2_bitsOf : CalOk yX2_bitsOf cX2_bitsOf 3 (some .int) 1 := ⟨q_33, q_254, by decide +kernel⟩
theorem k_X3_init : CalOk yX3_init cX3_init 1 none 0 := ⟨q_36, q_397, by decide +kernel⟩
theorem k_X3_within : CalOk yX3_within cX3_within 3 (some .boolean) 3 := ⟨q_36, q_455, by decide +kernel⟩
theorem k_X3_ones : CalOk yX3_ones cX3_ones 3 (some .int) 1 := ⟨q_36, q_466, by decide +kernel⟩
theorem k_X3_fails : CalOk yX3_fails cX3_fails 2 (some .int) 1 := ⟨q_36, q_440, by decide +kernel⟩
theorem k_X3_isLine : CalOk yX3_isLine cX3_isLine 2 (some .boolean) 1 := ⟨q_36, q_478, by decide +kernel⟩
theorem k_X3_isPrint : CalOk yX3_isPrint cX3_isPrint 2 (some .boolean) 1 := ⟨q_36, q_520, by decide +kernel⟩
theorem k_X3_saves : CalOk yX3_saves cX3_saves 2 none 0 := ⟨q_36, q_448, by decide +kernel⟩
theorem k_X3_undo : CalOk yX3_undo cX3_undo 2 (some .int) 0 := ⟨q_36, q_436, by decide +kernel⟩
theorem k_X3_draw : CalOk yX3_draw cX3_draw 1 (some .int) 0 := ⟨q_36, q_444, by decide +kernel⟩
theorem k_X3_setStrength : CalOk yX3_setStrength cX3_setStrength 3 (some .int) 1 := ⟨q_36, q_452, by decide +kernel⟩
theorem k_X3_dip : CalOk yX3_dip cX3_dip 5 (some .int) 1 := ⟨q_36, q_459, by decide +kernel⟩
theorem k_X3_varnish : CalOk yX3_varnish cX3_varnish 2 (some .int) 1 := ⟨q_36, q_463, by decide +kernel⟩
theorem k_X3_clean : CalOk yX3_clean cX3_clean 2 (some .int) 0 := ⟨q_36, q_470, by decide +kernel⟩
theorem k_X3_burnish : CalOk yX3_burnish cX3_burnish 3 (some .int) 2 := ⟨q_36, q_474, by decide +kernel⟩
theorem k_X3_pull : CalOk yX3_pull cX3_pull 3 (some .int) 0 := ⟨q_36, q_482, by decide +kernel⟩
theorem k_X3_lines : CalOk yX3_lines cX3_lines 1 (some .int) 0 := ⟨q_36, q_486, by decide +kernel⟩
theorem k_X3_depth : CalOk yX3_depth cX3_depth 2 (some .int) 1 := ⟨q_36, q_490, by decide +kernel⟩
theorem k_X3_varnished : CalOk yX3_varnished cX3_varnished 1 (some .int) 0 := ⟨q_36, q_494, by decide +kernel⟩
theorem k_X3_meanDepthBits : CalOk yX3_meanDepthBits cX3_meanDepthBits 3 (some .int) 0 := ⟨q_36, q_498, by decide +kernel⟩
theorem k_X3_prints : CalOk yX3_prints cX3_prints 1 (some .int) 0 := ⟨q_36, q_512, by decide +kernel⟩
theorem k_X3_stateOf : CalOk yX3_stateOf cX3_stateOf 2 (some .int) 1 := ⟨q_36, q_516, by decide +kernel⟩
theorem k_X3_toneOf : CalOk yX3_toneOf cX3_toneOf 3 (some .int) 2 := ⟨q_36, q_528, by decide +kernel⟩
theorem k_X3_tone : CalOk yX3_tone cX3_tone 3 (some .int) 2 := ⟨q_36, q_524, by decide +kernel⟩
theorem k_X3_may : CalOk yX3_may cX3_may 5 (some .boolean) 2 := ⟨q_36, q_536, by decide +kernel⟩
theorem k_X3_mayPrecede : CalOk yX3_mayPrecede cX3_mayPrecede 3 (some .int) 2 := ⟨q_36, q_532, by decide +kernel⟩
theorem k_X3_ordersOf : CalOk yX3_ordersOf cX3_ordersOf 5 (some .int) 1 := ⟨q_36, q_544, by decide +kernel⟩
theorem k_X3_orders : CalOk yX3_orders cX3_orders 2 (some .int) 1 := ⟨q_36, q_540, by decide +kernel⟩
theorem k_X3_bestState : CalOk yX3_bestState cX3_bestState 7 (some .int) 0 := ⟨q_36, q_548, by decide +kernel⟩
theorem k_X3_setTarget : CalOk yX3_setTarget cX3_setTarget 4 (some .int) 2 := ⟨q_36, q_552, by decide +kernel⟩
theorem k_X3_allows : CalOk yX3_allows cX3_allows 3 (some .boolean) 2 := ⟨q_36, q_568, by decide +kernel⟩
theorem k_X3_greatest : CalOk yX3_greatest cX3_greatest 3 (some .int) 1 := ⟨q_36, q_564, by decide +kernel⟩
theorem k_X3_blocked : CalOk yX3_blocked cX3_blocked 3 (some .int) 0 := ⟨q_36, q_560, by decide +kernel⟩
theorem k_X3_usedBy : CalOk yX3_usedBy cX3_usedBy 3 (some .int) 1 := ⟨q_36, q_576, by decide +kernel⟩
theorem k_X3_plans : CalOk yX3_plans cX3_plans 3 none 0 := ⟨q_36, q_572, by decide +kernel⟩
theorem k_X3_minutesOf : CalOk yX3_minutesOf cX3_minutesOf 2 (some .int) 1 := ⟨q_36, q_588, by decide +kernel⟩
theorem k_X3_doneBefore : CalOk yX3_doneBefore cX3_doneBefore 4 (some .int) 1 := ⟨q_36, q_596, by decide +kernel⟩
theorem k_X3_dips : CalOk yX3_dips cX3_dips 1 (some .int) 0 := ⟨q_36, q_556, by decide +kernel⟩
theorem k_X3_against : CalOk yX3_against cX3_against 2 (some .int) 1 := ⟨q_36, q_584, by decide +kernel⟩
theorem k_X3_dipMinutes : CalOk yX3_dipMinutes cX3_dipMinutes 3 (some .int) 1 := ⟨q_36, q_580, by decide +kernel⟩
theorem k_X3_dipVarnish : CalOk yX3_dipVarnish cX3_dipVarnish 3 (some .int) 1 := ⟨q_36, q_592, by decide +kernel⟩
theorem k_X3_obstacles : CalOk yX3_obstacles cX3_obstacles 1 (some .int) 0 := ⟨q_36, q_600, by decide +kernel⟩
theorem k_X3_errorCount : CalOk yX3_errorCount cX3_errorCount 2 (some .int) 1 := ⟨q_36, q_604, by decide +kernel⟩
theorem k_X3_mix : CalOk yX3_mix cX3_mix 2 none 1 := ⟨q_36, q_613, by decide +kernel⟩
theorem k_X3_mixPrints : CalOk yX3_mixPrints cX3_mixPrints 3 none 0 := ⟨q_36, q_618, by decide +kernel⟩
theorem k_X3_mixPlan : CalOk yX3_mixPlan cX3_mixPlan 2 none 0 := ⟨q_36, q_622, by decide +kernel⟩
theorem k_X3_digest : CalOk yX3_digest cX3_digest 2 (some .long) 0 := ⟨q_36, q_608, by decide +kernel⟩
theorem k_Jxf58ca_isNaN_12338 : CalOk yJxf58ca_isNaN_12338 cJxf58ca_isNaN_12338 1 (some .boolean) 1 := ⟨q_40, q_504, by decide +kernel⟩
theorem k_Jxf58ca_floatToIntBits_5c35a : CalOk yJxf58ca_floatToIntBits_5c35a cJxf58ca_floatToIntBits_5c35a 1 (some .int) 1 := ⟨q_40, q_501, by decide +kernel⟩
theorem k_J6_bitCount_0f7a4 : CalOk yJ6_bitCount_0f7a4 cJ6_bitCount_0f7a4 1 (some .int) 1 := ⟨q_39, q_197, by decide +kernel⟩
theorem k_J9_abs_0f7a4 : CalOk yJ9_abs_0f7a4 cJ9_abs_0f7a4 1 (some .int) 1 := ⟨q_38, q_308, by decide +kernel⟩
theorem k_J9_max_7cf53 : CalOk yJ9_max_7cf53 cJ9_max_7cf53 2 (some .int) 2 := ⟨q_38, q_219, by decide +kernel⟩
theorem k_J9_min_7cf53 : CalOk yJ9_min_7cf53 cJ9_min_7cf53 2 (some .int) 2 := ⟨q_38, q_184, by decide +kernel⟩
