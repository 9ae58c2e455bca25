/-! ===== BEGIN words of one list among another's, by their places ===== -/
theorem goodIn_r {big : List Cond} (ws : List Cond) (ps : List Nat) (hp : ws = ps.filterMap (fun i => big[i]?)) (h : ws.all goodWord = true) : GoodIn big ws := by
  intro w hw
  have h1 := List.all_eq_true.mp h w hw
  rw [hp] at hw
  obtain ⟨i, -, hi⟩ := List.mem_filterMap.mp hw
  have hm : w ∈ big := by first | exact List.mem_of_getElem? hi | exact List.getElem?_mem hi
  exact ⟨hm, good_of_word h1⟩
theorem goodIn_app {big a b : List Cond} (ha : GoodIn big a) (hb : GoodIn big b) : GoodIn big (a ++ b) := fun w h => (List.mem_append.mp h).elim (ha w) (hb w)
theorem goodIn_ca {big a b : List Cond} {c : Cond} (ha : GoodIn big (c :: a)) (hb : GoodIn big b) : GoodIn big (c :: (a ++ b)) := fun w h => (List.mem_cons.mp h).elim (fun e => ha w (List.mem_cons.mpr (Or.inl e))) (fun h => (List.mem_append.mp h).elim (fun h => ha w (List.mem_cons.mpr (Or.inr h))) (hb w))
theorem goodIn_sub {big ws : List Cond} (hm : ∀ w ∈ ws, w ∈ big) (h : ws.all goodWord = true) : GoodIn big ws := fun w hw => ⟨hm w hw, good_of_word (List.all_eq_true.mp h w hw)⟩
/-! ===== END ===== -/

/-! ===== BEGIN printed: names, fields, word lists, decode rows ===== -/
def RX0 : String := "SheetRows"
def TX0 : u_T := fun k => match k with
  | 0 => ("SheetRows", "width", "I", true)
  | 1 => ("SheetRows", "height", "I", true)
  | 2 => ("SheetRows", "greys", "[B", false)
  | 3 => ("SheetRows", "spare", "[B", false)
  | 4 => ("SheetRows", "countBelow", "[I", true)
  | 5 => ("SheetRows", "sumBelow", "[I", true)
  | 6 => ("SheetRows", "dark", "[Z", true)
  | 7 => ("SheetRows", "darkInRow", "[I", true)
  | 8 => ("SheetRows", "reached", "[I", true)
  | 9 => ("SheetRows", "reachedCount", "I", false)
  | 10 => ("SheetRows", "partFacts", "[I", true)
  | 11 => ("SheetRows", "partCount", "I", false)
  | 12 => ("SheetRows", "packed", "[B", true)
  | 13 => ("SheetRows", "packedCount", "I", false)
  | 14 => ("SheetRows", "collected", "[B", true)
  | _ => ("SheetRows", "collectedCount", "I", false)
def tyX0 : Nat → FieldType := fun k => match k with
  | 0 => .int
  | 1 => .int
  | 2 => .array .byte
  | 3 => .array .byte
  | 4 => .array .int
  | 5 => .array .int
  | 6 => .array .boolean
  | 7 => .array .int
  | 8 => .array .int
  | 9 => .int
  | 10 => .array .int
  | 11 => .int
  | 12 => .array .byte
  | 13 => .int
  | 14 => .array .byte
  | _ => .int
abbrev wsX00 : List Cond := u_ws RX0 TX0 16
theorem nmX0 : ∀ a, a < 16 → ∀ b, b < 16 → a ≠ b → (TX0 a).2.1 ≠ (TX0 b).2.1 := by decide +kernel
theorem tyX0_ok : ∀ k, k < 16 → parseFieldDescriptor (TX0 k).2.2.1 = some (tyX0 k) := by decide +kernel
abbrev cX0_init : ByteArray := prog_1_method_1_code
def yX0_init : MethodName := ⟨RX0, "<init>", "(II)V"⟩
abbrev cX0_put : ByteArray := prog_1_method_2_code
def yX0_put : MethodName := ⟨RX0, "put", "(IIB)V"⟩
abbrev cX0_threshold : ByteArray := prog_1_method_3_code
def yX0_threshold : MethodName := ⟨RX0, "threshold", "()I"⟩
abbrev cX0_parts : ByteArray := prog_1_method_4_code
def yX0_parts : MethodName := ⟨RX0, "parts", "()I"⟩
abbrev cX0_part : ByteArray := prog_1_method_5_code
def yX0_part : MethodName := ⟨RX0, "part", "(II)I"⟩
abbrev cX0_skew : ByteArray := prog_1_method_6_code
def yX0_skew : MethodName := ⟨RX0, "skew", "()I"⟩
abbrev cX0_turn : ByteArray := prog_1_method_7_code
def yX0_turn : MethodName := ⟨RX0, "turn", "(I)I"⟩
abbrev cX0_pack : ByteArray := prog_1_method_8_code
def yX0_pack : MethodName := ⟨RX0, "pack", "()I"⟩
abbrev cX0_octet : ByteArray := prog_1_method_9_code
def yX0_octet : MethodName := ⟨RX0, "octet", "(I)B"⟩
abbrev cX0_add : ByteArray := prog_1_method_10_code
def yX0_add : MethodName := ⟨RX0, "add", "(B)V"⟩
abbrev cX0_unpack : ByteArray := prog_1_method_11_code
def yX0_unpack : MethodName := ⟨RX0, "unpack", "()I"⟩
abbrev cX0_side : ByteArray := prog_1_method_12_code
def yX0_side : MethodName := ⟨RX0, "side", "(I)I"⟩
abbrev cX0_inverted : ByteArray := prog_1_method_13_code
def yX0_inverted : MethodName := ⟨RX0, "inverted", "()Z"⟩
abbrev cX0_grey : ByteArray := prog_1_method_14_code
def yX0_grey : MethodName := ⟨RX0, "grey", "(II)I"⟩
abbrev cX0_isOnSheet : ByteArray := prog_1_method_15_code
def yX0_isOnSheet : MethodName := ⟨RX0, "isOnSheet", "(II)Z"⟩
abbrev cX0_takeSpare : ByteArray := prog_1_method_16_code
def yX0_takeSpare : MethodName := ⟨RX0, "takeSpare", "()I"⟩
abbrev cX0_tallyGreys : ByteArray := prog_1_method_17_code
def yX0_tallyGreys : MethodName := ⟨RX0, "tallyGreys", "()V"⟩
abbrev cX0_spreadAt : ByteArray := prog_1_method_18_code
def yX0_spreadAt : MethodName := ⟨RX0, "spreadAt", "(I)I"⟩
abbrev cX0_spreadOfLot : ByteArray := prog_1_method_19_code
def yX0_spreadOfLot : MethodName := ⟨RX0, "spreadOfLot", "(II)I"⟩
abbrev cX0_hasMostlyLow : ByteArray := prog_1_method_20_code
def yX0_hasMostlyLow : MethodName := ⟨RX0, "hasMostlyLow", "(I)Z"⟩
abbrev cX0_markDark : ByteArray := prog_1_method_21_code
def yX0_markDark : MethodName := ⟨RX0, "markDark", "()V"⟩
abbrev cX0_reachPart : ByteArray := prog_1_method_22_code
def yX0_reachPart : MethodName := ⟨RX0, "reachPart", "(I)V"⟩
abbrev cX0_reachAround : ByteArray := prog_1_method_23_code
def yX0_reachAround : MethodName := ⟨RX0, "reachAround", "(II)V"⟩
abbrev cX0_reach : ByteArray := prog_1_method_24_code
def yX0_reach : MethodName := ⟨RX0, "reach", "(I)V"⟩
abbrev cX0_keepPart : ByteArray := prog_1_method_25_code
def yX0_keepPart : MethodName := ⟨RX0, "keepPart", "()V"⟩
abbrev cX0_shearAt : ByteArray := prog_1_method_26_code
def yX0_shearAt : MethodName := ⟨RX0, "shearAt", "(II)I"⟩
abbrev cX0_sumOfSquares : ByteArray := prog_1_method_27_code
def yX0_sumOfSquares : MethodName := ⟨RX0, "sumOfSquares", "(I)I"⟩
abbrev cX0_packStretch : ByteArray := prog_1_method_28_code
def yX0_packStretch : MethodName := ⟨RX0, "packStretch", "(IB)V"⟩
abbrev cX0_readCollected : ByteArray := prog_1_method_29_code
def yX0_readCollected : MethodName := ⟨RX0, "readCollected", "()I"⟩
abbrev cX0_mirrorRows : ByteArray := prog_1_method_30_code
def yX0_mirrorRows : MethodName := ⟨RX0, "mirrorRows", "()V"⟩
abbrev cX0_reverseRows : ByteArray := prog_1_method_31_code
def yX0_reverseRows : MethodName := ⟨RX0, "reverseRows", "()V"⟩
abbrev cX0_invertGreys : ByteArray := prog_1_method_32_code
def yX0_invertGreys : MethodName := ⟨RX0, "invertGreys", "()V"⟩
abbrev cX0_halve : ByteArray := prog_1_method_33_code
def yX0_halve : MethodName := ⟨RX0, "halve", "()V"⟩
abbrev cX0_meanOfFour : ByteArray := prog_1_method_34_code
def yX0_meanOfFour : MethodName := ⟨RX0, "meanOfFour", "(I)B"⟩
def RX1 : String := "SheetRowsModel"
def TX1 : u_T := fun k => match k with
  | 0 => ("SheetRowsModel", "thrown", "I", false)
  | 1 => ("SheetRowsModel", "w", "I", true)
  | 2 => ("SheetRowsModel", "h", "I", true)
  | 3 => ("SheetRowsModel", "n", "I", true)
  | 4 => ("SheetRowsModel", "greys", "[I", true)
  | 5 => ("SheetRowsModel", "other", "[I", true)
  | 6 => ("SheetRowsModel", "counts", "[I", true)
  | 7 => ("SheetRowsModel", "labels", "[I", true)
  | 8 => ("SheetRowsModel", "parts", "I", false)
  | 9 => ("SheetRowsModel", "firsts", "[I", true)
  | 10 => ("SheetRowsModel", "told", "[I", true)
  | 11 => ("SheetRowsModel", "packed", "I", false)
  | 12 => ("SheetRowsModel", "pairs", "[B", true)
  | 13 => ("SheetRowsModel", "collected", "I", false)
  | _ => ("SheetRowsModel", "bytes", "[B", true)
def tyX1 : Nat → FieldType := fun k => match k with
  | 0 => .int
  | 1 => .int
  | 2 => .int
  | 3 => .int
  | 4 => .array .int
  | 5 => .array .int
  | 6 => .array .int
  | 7 => .array .int
  | 8 => .int
  | 9 => .array .int
  | 10 => .array .int
  | 11 => .int
  | 12 => .array .byte
  | 13 => .int
  | _ => .array .byte
abbrev wsX10 : List Cond := u_ws RX1 TX1 15
theorem nmX1 : ∀ a, a < 15 → ∀ b, b < 15 → a ≠ b → (TX1 a).2.1 ≠ (TX1 b).2.1 := by decide +kernel
theorem tyX1_ok : ∀ k, k < 15 → parseFieldDescriptor (TX1 k).2.2.1 = some (tyX1 k) := by decide +kernel
abbrev cX1_init : ByteArray := prog_3_method_1_code
def yX1_init : MethodName := ⟨RX1, "<init>", "(II)V"⟩
abbrev cX1_thrown : ByteArray := prog_3_method_2_code
def yX1_thrown : MethodName := ⟨RX1, "thrown", "()I"⟩
abbrev cX1_refused : ByteArray := prog_3_method_3_code
def yX1_refused : MethodName := ⟨RX1, "refused", "(Z)Z"⟩
abbrev cX1_isOn : ByteArray := prog_3_method_4_code
def yX1_isOn : MethodName := ⟨RX1, "isOn", "(II)Z"⟩
abbrev cX1_put : ByteArray := prog_3_method_5_code
def yX1_put : MethodName := ⟨RX1, "put", "(IIB)V"⟩
abbrev cX1_grey : ByteArray := prog_3_method_6_code
def yX1_grey : MethodName := ⟨RX1, "grey", "(II)I"⟩
abbrev cX1_spread : ByteArray := prog_3_method_7_code
def yX1_spread : MethodName := ⟨RX1, "spread", "(II)I"⟩
abbrev cX1_thresholdNow : ByteArray := prog_3_method_8_code
def yX1_thresholdNow : MethodName := ⟨RX1, "thresholdNow", "()I"⟩
abbrev cX1_threshold : ByteArray := prog_3_method_9_code
def yX1_threshold : MethodName := ⟨RX1, "threshold", "()I"⟩
abbrev cX1_isInverted : ByteArray := prog_3_method_10_code
def yX1_isInverted : MethodName := ⟨RX1, "isInverted", "(I)Z"⟩
abbrev cX1_inverted : ByteArray := prog_3_method_11_code
def yX1_inverted : MethodName := ⟨RX1, "inverted", "()Z"⟩
abbrev cX1_darken : ByteArray := prog_3_method_12_code
def yX1_darken : MethodName := ⟨RX1, "darken", "()V"⟩
abbrev cX1_leastAround : ByteArray := prog_3_method_13_code
def yX1_leastAround : MethodName := ⟨RX1, "leastAround", "(I)I"⟩
abbrev cX1_parts : ByteArray := prog_3_method_14_code
def yX1_parts : MethodName := ⟨RX1, "parts", "()I"⟩
abbrev cX1_sizeOf : ByteArray := prog_3_method_15_code
def yX1_sizeOf : MethodName := ⟨RX1, "sizeOf", "(I)I"⟩
abbrev cX1_tell : ByteArray := prog_3_method_16_code
def yX1_tell : MethodName := ⟨RX1, "tell", "(I)V"⟩
abbrev cX1_part : ByteArray := prog_3_method_17_code
def yX1_part : MethodName := ⟨RX1, "part", "(II)I"⟩
abbrev cX1_rowOf : ByteArray := prog_3_method_18_code
def yX1_rowOf : MethodName := ⟨RX1, "rowOf", "(III)I"⟩
abbrev cX1_skew : ByteArray := prog_3_method_19_code
def yX1_skew : MethodName := ⟨RX1, "skew", "()I"⟩
abbrev cX1_change : ByteArray := prog_3_method_20_code
def yX1_change : MethodName := ⟨RX1, "change", "()I"⟩
abbrev cX1_turn : ByteArray := prog_3_method_21_code
def yX1_turn : MethodName := ⟨RX1, "turn", "(I)I"⟩
abbrev cX1_pack : ByteArray := prog_3_method_22_code
def yX1_pack : MethodName := ⟨RX1, "pack", "()I"⟩
abbrev cX1_octet : ByteArray := prog_3_method_23_code
def yX1_octet : MethodName := ⟨RX1, "octet", "(I)B"⟩
abbrev cX1_add : ByteArray := prog_3_method_24_code
def yX1_add : MethodName := ⟨RX1, "add", "(B)V"⟩
abbrev cX1_unpack : ByteArray := prog_3_method_25_code
def yX1_unpack : MethodName := ⟨RX1, "unpack", "()I"⟩
abbrev cX1_mean : ByteArray := prog_3_method_26_code
def yX1_mean : MethodName := ⟨RX1, "mean", "(II)I"⟩
abbrev cX1_side : ByteArray := prog_3_method_27_code
def yX1_side : MethodName := ⟨RX1, "side", "(I)I"⟩
def RJx00060 : String := "java/lang/ArrayIndexOutOfBoundsException"
def TJx00060 : u_T := fun k => match k with
  | 0 => ("java/lang/Throwable", "cause", "Ljava/lang/Throwable;", false)
  | 1 => ("java/lang/Throwable", "stackTrace", "[Ljava/lang/StackTraceElement;", false)
  | 2 => ("java/lang/Throwable", "suppressedExceptions", "Ljava/util/List;", false)
  | 3 => ("java/lang/Throwable", "detailMessage", "Ljava/lang/String;", false)
  | 4 => ("java/lang/Throwable", "backtrace", "Ljava/lang/Object;", false)
  | _ => ("java/lang/Throwable", "depth", "I", false)
def tyJx00060 : Nat → FieldType := fun k => match k with
  | 0 => .object "java/lang/Throwable"
  | 1 => .array (.object "java/lang/StackTraceElement")
  | 2 => .object "java/util/List"
  | 3 => .object "java/lang/String"
  | 4 => .object "java/lang/Object"
  | _ => .int
abbrev wsJx000600 : List Cond := u_ws RJx00060 TJx00060 6
theorem nmJx00060 : ∀ a, a < 6 → ∀ b, b < 6 → a ≠ b → (TJx00060 a).2.1 ≠ (TJx00060 b).2.1 := by decide +kernel
theorem tyJx00060_ok : ∀ k, k < 6 → parseFieldDescriptor (TJx00060 k).2.2.1 = some (tyJx00060 k) := by decide +kernel
abbrev cJx00060_init_a7421 : ByteArray := prog_4_method_2_code
def yJx00060_init_a7421 : MethodName := ⟨RJx00060, "<init>", "(Ljava/lang/String;)V"⟩
def RJ9 : String := "java/lang/Math"
def TJ9 : u_T := fun k => match k with
  | _ => ("", "", "", false)
def tyJ9 : Nat → FieldType := fun k => match k with
  | _ => .int
abbrev wsJ90 : List Cond := u_ws RJ9 TJ9 0
theorem nmJ9 : ∀ a, a < 0 → ∀ b, b < 0 → a ≠ b → (TJ9 a).2.1 ≠ (TJ9 b).2.1 := by decide +kernel
theorem tyJ9_ok : ∀ k, k < 0 → parseFieldDescriptor (TJ9 k).2.2.1 = some (tyJ9 k) := by decide +kernel
abbrev cJ9_floorDiv_7cf53 : ByteArray := prog_7_method_47_code
def yJ9_floorDiv_7cf53 : MethodName := ⟨RJ9, "floorDiv", "(II)I"⟩
abbrev cJ9_floorMod_7cf53 : ByteArray := prog_7_method_50_code
def yJ9_floorMod_7cf53 : MethodName := ⟨RJ9, "floorMod", "(II)I"⟩
abbrev cJ9_max_7cf53 : ByteArray := prog_7_method_65_code
def yJ9_max_7cf53 : MethodName := ⟨RJ9, "max", "(II)I"⟩
abbrev cJ9_min_7cf53 : ByteArray := prog_7_method_69_code
def yJ9_min_7cf53 : MethodName := ⟨RJ9, "min", "(II)I"⟩
def RJ0 : String := "java/lang/String"
def TJ0 : u_T := fun k => match k with
  | _ => ("", "", "", false)
def tyJ0 : Nat → FieldType := fun k => match k with
  | _ => .int
abbrev wsJ00 : List Cond := u_ws RJ0 TJ0 0
theorem nmJ0 : ∀ a, a < 0 → ∀ b, b < 0 → a ≠ b → (TJ0 a).2.1 ≠ (TJ0 b).2.1 := by decide +kernel
theorem tyJ0_ok : ∀ k, k < 0 → parseFieldDescriptor (TJ0 k).2.2.1 = some (tyJ0 k) := by decide +kernel
def RJ7 : String := "java/util/Arrays"
def TJ7 : u_T := fun k => match k with
  | _ => ("", "", "", false)
def tyJ7 : Nat → FieldType := fun k => match k with
  | _ => .int
abbrev wsJ70 : List Cond := u_ws RJ7 TJ7 0
theorem nmJ7 : ∀ a, a < 0 → ∀ b, b < 0 → a ≠ b → (TJ7 a).2.1 ≠ (TJ7 b).2.1 := by decide +kernel
theorem tyJ7_ok : ∀ k, k < 0 → parseFieldDescriptor (TJ7 k).2.2.1 = some (tyJ7 k) := by decide +kernel
abbrev cJ7_fill_53178 : ByteArray := prog_11_method_103_code
def yJ7_fill_53178 : MethodName := ⟨RJ7, "fill", "([II)V"⟩
abbrev cJ7_fill_031fb : ByteArray := prog_11_method_109_code
def yJ7_fill_031fb : MethodName := ⟨RJ7, "fill", "([BB)V"⟩
def RL : String := "SheetRowsLaw"
abbrev cL_cell : ByteArray := method_2_code
def yL_cell : MethodName := ⟨RL, "cell", "([II)I"⟩
abbrev cL_put : ByteArray := method_3_code
def yL_put : MethodName := ⟨RL, "put", "(LSheetRows;IIB)I"⟩
abbrev cL_octet : ByteArray := method_4_code
def yL_octet : MethodName := ⟨RL, "octet", "(LSheetRows;I[J)I"⟩
abbrev cL_grey : ByteArray := method_5_code
def yL_grey : MethodName := ⟨RL, "grey", "(LSheetRows;II[J)I"⟩
abbrev cL_law : ByteArray := code
def yL_law : MethodName := ⟨RL, "law", "([I)Z"⟩
def wsJ7_fill_031fb : List Cond := .code yJ7_fill_031fb cJ7_fill_031fb 4 none :: ([])
def wsX0_init_r1 : List Cond := [Cond.methodLink RX0 3 objectInit, Cond.instanceMethod objectInit, Cond.code objectInit ⟨#[0xb1]⟩ 1 none, Cond.methodLink RX0 9 Lib.Math.min.name, Cond.static Lib.Math.min.name, Cond.initialized "java/lang/Math", Cond.code Lib.Math.min.name Lib.Math.min.code 2 (some .int), Cond.methodLink RX0 15 Lib.Math.max.name, Cond.static Lib.Math.max.name, Cond.code Lib.Math.max.name Lib.Math.max.code 2 (some .int), Cond.fieldLink RX0 18 "SheetRows" "width" "I", Cond.fieldLink RX0 22 "SheetRows" "height" "I", Cond.arrayClass .byte, Cond.fieldLink RX0 25 "SheetRows" "greys" "[B", Cond.fieldLink RX0 29 "SheetRows" "spare" "[B", Cond.arrayClass .int, Cond.fieldLink RX0 32 "SheetRows" "countBelow" "[I", Cond.fieldLink RX0 36 "SheetRows" "sumBelow" "[I", Cond.arrayClass .boolean, Cond.fieldLink RX0 39 "SheetRows" "dark" "[Z", Cond.fieldLink RX0 43 "SheetRows" "darkInRow" "[I", Cond.fieldLink RX0 46 "SheetRows" "reached" "[I", Cond.fieldLink RX0 49 "SheetRows" "partFacts" "[I", Cond.fieldLink RX0 52 "SheetRows" "packed" "[B"]
def wsX0_init_r2 : List Cond := [Cond.fieldLink RX0 55 "SheetRows" "collected" "[B", Cond.methodLink RX0 58 yJ7_fill_031fb, Cond.static yJ7_fill_031fb, Cond.initialized RJ7, Cond.code yJ7_fill_031fb cJ7_fill_031fb 4 none]
def wsX0_init : List Cond := .code yX0_init cX0_init 4 none :: ((wsX0_init_r1 ++ wsX0_init_r2) ++ wsX00)
def wsX0_isOnSheet : List Cond := .code yX0_isOnSheet cX0_isOnSheet 3 (some .boolean) :: ([.fieldLink RX0 18 "SheetRows" "width" "I", .fieldLink RX0 22 "SheetRows" "height" "I"] ++ wsX00)
def wsX0_put : List Cond := .code yX0_put cX0_put 4 none :: ([.classLink RX0 68 RJx00060, .instantiable RJx00060 6, .initialized RJx00060, .fieldLink RX0 25 "SheetRows" "greys" "[B", .fieldLink RX0 18 "SheetRows" "width" "I", .methodLink RX0 64 yX0_isOnSheet, .instanceMethod yX0_isOnSheet, .selects RX0 yX0_isOnSheet yX0_isOnSheet, .initialized RX0, .code yX0_isOnSheet cX0_isOnSheet 3 (some .boolean), .fieldLink RX0 22 "SheetRows" "height" "I"] ++ wsJx000600 ++ wsX00)
def wsJ7_fill_53178 : List Cond := .code yJ7_fill_53178 cJ7_fill_53178 4 none :: ([])
def wsX0_tallyGreys : List Cond := .code yX0_tallyGreys cX0_tallyGreys 2 none :: ([.fieldLink RX0 32 "SheetRows" "countBelow" "[I", .fieldLink RX0 25 "SheetRows" "greys" "[B", .fieldLink RX0 36 "SheetRows" "sumBelow" "[I", .methodLink RX0 142 yJ7_fill_53178, .static yJ7_fill_53178, .initialized RJ7, .code yJ7_fill_53178 cJ7_fill_53178 4 none] ++ wsX00)
def wsX0_spreadOfLot : List Cond := .code yX0_spreadOfLot cX0_spreadOfLot 8 (some .int) :: ([.fieldLink RX0 32 "SheetRows" "countBelow" "[I", .fieldLink RX0 36 "SheetRows" "sumBelow" "[I"] ++ wsX00)
def wsX0_spreadAt : List Cond := .code yX0_spreadAt cX0_spreadAt 2 (some .int) :: ([.methodLink RX0 145 yX0_spreadOfLot, .instanceMethod yX0_spreadOfLot, .selects RX0 yX0_spreadOfLot yX0_spreadOfLot, .initialized RX0, .code yX0_spreadOfLot cX0_spreadOfLot 8 (some .int), .fieldLink RX0 32 "SheetRows" "countBelow" "[I", .fieldLink RX0 36 "SheetRows" "sumBelow" "[I"] ++ wsX00)
def wsX0_threshold : List Cond := .code yX0_threshold cX0_threshold 5 (some .int) :: ([.methodLink RX0 75 yX0_tallyGreys, .instanceMethod yX0_tallyGreys, .selects RX0 yX0_tallyGreys yX0_tallyGreys, .initialized RX0, .code yX0_tallyGreys cX0_tallyGreys 2 none, .fieldLink RX0 32 "SheetRows" "countBelow" "[I", .fieldLink RX0 25 "SheetRows" "greys" "[B", .fieldLink RX0 36 "SheetRows" "sumBelow" "[I", .methodLink RX0 142 yJ7_fill_53178, .static yJ7_fill_53178, .initialized RJ7, .code yJ7_fill_53178 cJ7_fill_53178 4 none, .methodLink RX0 78 yX0_spreadAt, .instanceMethod yX0_spreadAt, .selects RX0 yX0_spreadAt yX0_spreadAt, .code yX0_spreadAt cX0_spreadAt 2 (some .int), .methodLink RX0 145 yX0_spreadOfLot, .instanceMethod yX0_spreadOfLot, .selects RX0 yX0_spreadOfLot yX0_spreadOfLot, .code yX0_spreadOfLot cX0_spreadOfLot 8 (some .int)] ++ wsX00)
def wsX0_hasMostlyLow : List Cond := .code yX0_hasMostlyLow cX0_hasMostlyLow 2 (some .boolean) :: ([.fieldLink RX0 32 "SheetRows" "countBelow" "[I", .fieldLink RX0 25 "SheetRows" "greys" "[B"] ++ wsX00)
def wsX0_markDark_r1 : List Cond := [Cond.fieldLink RX0 25 "SheetRows" "greys" "[B", Cond.fieldLink RX0 39 "SheetRows" "dark" "[Z", Cond.methodLink RX0 135 yX0_threshold, Cond.instanceMethod yX0_threshold, Cond.selects RX0 yX0_threshold yX0_threshold, Cond.initialized RX0, Cond.code yX0_threshold cX0_threshold 5 (some .int), Cond.methodLink RX0 75 yX0_tallyGreys, Cond.instanceMethod yX0_tallyGreys, Cond.selects RX0 yX0_tallyGreys yX0_tallyGreys, Cond.code yX0_tallyGreys cX0_tallyGreys 2 none, Cond.fieldLink RX0 32 "SheetRows" "countBelow" "[I", Cond.fieldLink RX0 36 "SheetRows" "sumBelow" "[I", Cond.methodLink RX0 142 yJ7_fill_53178, Cond.static yJ7_fill_53178, Cond.initialized RJ7, Cond.code yJ7_fill_53178 cJ7_fill_53178 4 none, Cond.methodLink RX0 78 yX0_spreadAt, Cond.instanceMethod yX0_spreadAt, Cond.selects RX0 yX0_spreadAt yX0_spreadAt, Cond.code yX0_spreadAt cX0_spreadAt 2 (some .int), Cond.methodLink RX0 145 yX0_spreadOfLot, Cond.instanceMethod yX0_spreadOfLot, Cond.selects RX0 yX0_spreadOfLot yX0_spreadOfLot]
def wsX0_markDark_r2 : List Cond := [Cond.code yX0_spreadOfLot cX0_spreadOfLot 8 (some .int), Cond.methodLink RX0 138 yX0_hasMostlyLow, Cond.instanceMethod yX0_hasMostlyLow, Cond.selects RX0 yX0_hasMostlyLow yX0_hasMostlyLow, Cond.code yX0_hasMostlyLow cX0_hasMostlyLow 2 (some .boolean)]
def wsX0_markDark : List Cond := .code yX0_markDark cX0_markDark 5 none :: ((wsX0_markDark_r1 ++ wsX0_markDark_r2) ++ wsX00)
def wsX0_reach : List Cond := .code yX0_reach cX0_reach 2 none :: ([.fieldLink RX0 39 "SheetRows" "dark" "[Z", .fieldLink RX0 92 "SheetRows" "reachedCount" "I", .fieldLink RX0 46 "SheetRows" "reached" "[I"] ++ wsX00)
def wsX0_reachAround : List Cond := .code yX0_reachAround cX0_reachAround 5 none :: ([.methodLink RX0 15 Lib.Math.max.name, .static Lib.Math.max.name, .initialized "java/lang/Math", .code Lib.Math.max.name Lib.Math.max.code 2 (some .int), .fieldLink RX0 22 "SheetRows" "height" "I", .methodLink RX0 9 Lib.Math.min.name, .static Lib.Math.min.name, .code Lib.Math.min.name Lib.Math.min.code 2 (some .int), .fieldLink RX0 18 "SheetRows" "width" "I", .methodLink RX0 148 yX0_reach, .instanceMethod yX0_reach, .selects RX0 yX0_reach yX0_reach, .initialized RX0, .code yX0_reach cX0_reach 2 none, .fieldLink RX0 39 "SheetRows" "dark" "[Z", .fieldLink RX0 92 "SheetRows" "reachedCount" "I", .fieldLink RX0 46 "SheetRows" "reached" "[I"] ++ wsX00)
def wsX0_reachPart : List Cond := .code yX0_reachPart cX0_reachPart 3 none :: ([.fieldLink RX0 92 "SheetRows" "reachedCount" "I", .fieldLink RX0 46 "SheetRows" "reached" "[I", .fieldLink RX0 18 "SheetRows" "width" "I", .methodLink RX0 148 yX0_reach, .instanceMethod yX0_reach, .selects RX0 yX0_reach yX0_reach, .initialized RX0, .code yX0_reach cX0_reach 2 none, .fieldLink RX0 39 "SheetRows" "dark" "[Z", .methodLink RX0 151 yX0_reachAround, .instanceMethod yX0_reachAround, .selects RX0 yX0_reachAround yX0_reachAround, .code yX0_reachAround cX0_reachAround 5 none, .methodLink RX0 15 Lib.Math.max.name, .static Lib.Math.max.name, .initialized "java/lang/Math", .code Lib.Math.max.name Lib.Math.max.code 2 (some .int), .fieldLink RX0 22 "SheetRows" "height" "I", .methodLink RX0 9 Lib.Math.min.name, .static Lib.Math.min.name, .code Lib.Math.min.name Lib.Math.min.code 2 (some .int)] ++ wsX00)
def wsX0_keepPart : List Cond := .code yX0_keepPart cX0_keepPart 11 none :: ([.fieldLink RX0 85 "SheetRows" "partCount" "I", .fieldLink RX0 49 "SheetRows" "partFacts" "[I", .fieldLink RX0 18 "SheetRows" "width" "I", .fieldLink RX0 22 "SheetRows" "height" "I", .fieldLink RX0 92 "SheetRows" "reachedCount" "I", .fieldLink RX0 46 "SheetRows" "reached" "[I", .methodLink RX0 9 Lib.Math.min.name, .static Lib.Math.min.name, .initialized "java/lang/Math", .code Lib.Math.min.name Lib.Math.min.code 2 (some .int), .methodLink RX0 15 Lib.Math.max.name, .static Lib.Math.max.name, .code Lib.Math.max.name Lib.Math.max.code 2 (some .int)] ++ wsX00)
def wsX0_parts_r1 : List Cond := [Cond.fieldLink RX0 85 "SheetRows" "partCount" "I", Cond.fieldLink RX0 39 "SheetRows" "dark" "[Z", Cond.fieldLink RX0 92 "SheetRows" "reachedCount" "I", Cond.methodLink RX0 82 yX0_markDark, Cond.instanceMethod yX0_markDark, Cond.selects RX0 yX0_markDark yX0_markDark, Cond.initialized RX0, Cond.code yX0_markDark cX0_markDark 5 none, Cond.fieldLink RX0 25 "SheetRows" "greys" "[B", Cond.methodLink RX0 135 yX0_threshold, Cond.instanceMethod yX0_threshold, Cond.selects RX0 yX0_threshold yX0_threshold, Cond.code yX0_threshold cX0_threshold 5 (some .int), Cond.methodLink RX0 75 yX0_tallyGreys, Cond.instanceMethod yX0_tallyGreys, Cond.selects RX0 yX0_tallyGreys yX0_tallyGreys, Cond.code yX0_tallyGreys cX0_tallyGreys 2 none, Cond.fieldLink RX0 32 "SheetRows" "countBelow" "[I", Cond.fieldLink RX0 36 "SheetRows" "sumBelow" "[I", Cond.methodLink RX0 142 yJ7_fill_53178, Cond.static yJ7_fill_53178, Cond.initialized RJ7, Cond.code yJ7_fill_53178 cJ7_fill_53178 4 none, Cond.methodLink RX0 78 yX0_spreadAt]
def wsX0_parts_r2 : List Cond := [Cond.instanceMethod yX0_spreadAt, Cond.selects RX0 yX0_spreadAt yX0_spreadAt, Cond.code yX0_spreadAt cX0_spreadAt 2 (some .int), Cond.methodLink RX0 145 yX0_spreadOfLot, Cond.instanceMethod yX0_spreadOfLot, Cond.selects RX0 yX0_spreadOfLot yX0_spreadOfLot, Cond.code yX0_spreadOfLot cX0_spreadOfLot 8 (some .int), Cond.methodLink RX0 138 yX0_hasMostlyLow, Cond.instanceMethod yX0_hasMostlyLow, Cond.selects RX0 yX0_hasMostlyLow yX0_hasMostlyLow, Cond.code yX0_hasMostlyLow cX0_hasMostlyLow 2 (some .boolean), Cond.methodLink RX0 88 yX0_reachPart, Cond.instanceMethod yX0_reachPart, Cond.selects RX0 yX0_reachPart yX0_reachPart, Cond.code yX0_reachPart cX0_reachPart 3 none, Cond.fieldLink RX0 46 "SheetRows" "reached" "[I", Cond.fieldLink RX0 18 "SheetRows" "width" "I", Cond.methodLink RX0 148 yX0_reach, Cond.instanceMethod yX0_reach, Cond.selects RX0 yX0_reach yX0_reach, Cond.code yX0_reach cX0_reach 2 none, Cond.methodLink RX0 151 yX0_reachAround, Cond.instanceMethod yX0_reachAround, Cond.selects RX0 yX0_reachAround yX0_reachAround]
def wsX0_parts_r3 : List Cond := [Cond.code yX0_reachAround cX0_reachAround 5 none, Cond.methodLink RX0 15 Lib.Math.max.name, Cond.static Lib.Math.max.name, Cond.initialized "java/lang/Math", Cond.code Lib.Math.max.name Lib.Math.max.code 2 (some .int), Cond.fieldLink RX0 22 "SheetRows" "height" "I", Cond.methodLink RX0 9 Lib.Math.min.name, Cond.static Lib.Math.min.name, Cond.code Lib.Math.min.name Lib.Math.min.code 2 (some .int), Cond.methodLink RX0 95 yX0_keepPart, Cond.instanceMethod yX0_keepPart, Cond.selects RX0 yX0_keepPart yX0_keepPart, Cond.code yX0_keepPart cX0_keepPart 11 none, Cond.fieldLink RX0 49 "SheetRows" "partFacts" "[I"]
def wsX0_parts : List Cond := .code yX0_parts cX0_parts 2 (some .int) :: ((wsX0_parts_r1 ++ (wsX0_parts_r2 ++ wsX0_parts_r3)) ++ wsX00)
def wsX0_part : List Cond := .code yX0_part cX0_part 3 (some .int) :: ([.fieldLink RX0 85 "SheetRows" "partCount" "I", .fieldLink RX0 49 "SheetRows" "partFacts" "[I"] ++ wsX00)
def wsJ9_floorDiv_7cf53 : List Cond := .code yJ9_floorDiv_7cf53 cJ9_floorDiv_7cf53 3 (some .int) :: ([])
def wsJ9_floorMod_7cf53 : List Cond := .code yJ9_floorMod_7cf53 cJ9_floorMod_7cf53 3 (some .int) :: ([])
def wsX0_shearAt : List Cond := .code yX0_shearAt cX0_shearAt 3 (some .int) :: ([.fieldLink RX0 22 "SheetRows" "height" "I", .methodLink RX0 155 yJ9_floorDiv_7cf53, .static yJ9_floorDiv_7cf53, .initialized RJ9, .code yJ9_floorDiv_7cf53 cJ9_floorDiv_7cf53 3 (some .int), .methodLink RX0 158 yJ9_floorMod_7cf53, .static yJ9_floorMod_7cf53, .code yJ9_floorMod_7cf53 cJ9_floorMod_7cf53 3 (some .int)] ++ wsX00)
def wsX0_sumOfSquares : List Cond := .code yX0_sumOfSquares cX0_sumOfSquares 5 (some .int) :: ([.fieldLink RX0 43 "SheetRows" "darkInRow" "[I", .fieldLink RX0 18 "SheetRows" "width" "I", .fieldLink RX0 22 "SheetRows" "height" "I", .fieldLink RX0 39 "SheetRows" "dark" "[Z", .methodLink RX0 142 yJ7_fill_53178, .static yJ7_fill_53178, .initialized RJ7, .code yJ7_fill_53178 cJ7_fill_53178 4 none, .methodLink RX0 101 yX0_shearAt, .instanceMethod yX0_shearAt, .selects RX0 yX0_shearAt yX0_shearAt, .initialized RX0, .code yX0_shearAt cX0_shearAt 3 (some .int), .methodLink RX0 155 yJ9_floorDiv_7cf53, .static yJ9_floorDiv_7cf53, .initialized RJ9, .code yJ9_floorDiv_7cf53 cJ9_floorDiv_7cf53 3 (some .int), .methodLink RX0 158 yJ9_floorMod_7cf53, .static yJ9_floorMod_7cf53, .code yJ9_floorMod_7cf53 cJ9_floorMod_7cf53 3 (some .int)] ++ wsX00)
def wsX0_skew_r1 : List Cond := [Cond.methodLink RX0 82 yX0_markDark, Cond.instanceMethod yX0_markDark, Cond.selects RX0 yX0_markDark yX0_markDark, Cond.initialized RX0, Cond.code yX0_markDark cX0_markDark 5 none, Cond.fieldLink RX0 25 "SheetRows" "greys" "[B", Cond.fieldLink RX0 39 "SheetRows" "dark" "[Z", Cond.methodLink RX0 135 yX0_threshold, Cond.instanceMethod yX0_threshold, Cond.selects RX0 yX0_threshold yX0_threshold, Cond.code yX0_threshold cX0_threshold 5 (some .int), Cond.methodLink RX0 75 yX0_tallyGreys, Cond.instanceMethod yX0_tallyGreys, Cond.selects RX0 yX0_tallyGreys yX0_tallyGreys, Cond.code yX0_tallyGreys cX0_tallyGreys 2 none, Cond.fieldLink RX0 32 "SheetRows" "countBelow" "[I", Cond.fieldLink RX0 36 "SheetRows" "sumBelow" "[I", Cond.methodLink RX0 142 yJ7_fill_53178, Cond.static yJ7_fill_53178, Cond.initialized RJ7, Cond.code yJ7_fill_53178 cJ7_fill_53178 4 none, Cond.methodLink RX0 78 yX0_spreadAt, Cond.instanceMethod yX0_spreadAt, Cond.selects RX0 yX0_spreadAt yX0_spreadAt]
def wsX0_skew_r2 : List Cond := [Cond.code yX0_spreadAt cX0_spreadAt 2 (some .int), Cond.methodLink RX0 145 yX0_spreadOfLot, Cond.instanceMethod yX0_spreadOfLot, Cond.selects RX0 yX0_spreadOfLot yX0_spreadOfLot, Cond.code yX0_spreadOfLot cX0_spreadOfLot 8 (some .int), Cond.methodLink RX0 138 yX0_hasMostlyLow, Cond.instanceMethod yX0_hasMostlyLow, Cond.selects RX0 yX0_hasMostlyLow yX0_hasMostlyLow, Cond.code yX0_hasMostlyLow cX0_hasMostlyLow 2 (some .boolean), Cond.methodLink RX0 98 yX0_sumOfSquares, Cond.instanceMethod yX0_sumOfSquares, Cond.selects RX0 yX0_sumOfSquares yX0_sumOfSquares, Cond.code yX0_sumOfSquares cX0_sumOfSquares 5 (some .int), Cond.fieldLink RX0 43 "SheetRows" "darkInRow" "[I", Cond.fieldLink RX0 18 "SheetRows" "width" "I", Cond.fieldLink RX0 22 "SheetRows" "height" "I", Cond.methodLink RX0 101 yX0_shearAt, Cond.instanceMethod yX0_shearAt, Cond.selects RX0 yX0_shearAt yX0_shearAt, Cond.code yX0_shearAt cX0_shearAt 3 (some .int), Cond.methodLink RX0 155 yJ9_floorDiv_7cf53, Cond.static yJ9_floorDiv_7cf53, Cond.initialized RJ9, Cond.code yJ9_floorDiv_7cf53 cJ9_floorDiv_7cf53 3 (some .int)]
def wsX0_skew_r3 : List Cond := [Cond.methodLink RX0 158 yJ9_floorMod_7cf53, Cond.static yJ9_floorMod_7cf53, Cond.code yJ9_floorMod_7cf53 cJ9_floorMod_7cf53 3 (some .int)]
def wsX0_skew : List Cond := .code yX0_skew cX0_skew 6 (some .int) :: ((wsX0_skew_r1 ++ (wsX0_skew_r2 ++ wsX0_skew_r3)) ++ wsX00)
def wsX0_takeSpare : List Cond := .code yX0_takeSpare cX0_takeSpare 3 (some .int) :: ([.fieldLink RX0 25 "SheetRows" "greys" "[B", .fieldLink RX0 29 "SheetRows" "spare" "[B"] ++ wsX00)
def wsX0_turn : List Cond := .code yX0_turn cX0_turn 5 (some .int) :: ([.fieldLink RX0 18 "SheetRows" "width" "I", .fieldLink RX0 22 "SheetRows" "height" "I", .fieldLink RX0 29 "SheetRows" "spare" "[B", .fieldLink RX0 25 "SheetRows" "greys" "[B", .methodLink RX0 101 yX0_shearAt, .instanceMethod yX0_shearAt, .selects RX0 yX0_shearAt yX0_shearAt, .initialized RX0, .code yX0_shearAt cX0_shearAt 3 (some .int), .methodLink RX0 155 yJ9_floorDiv_7cf53, .static yJ9_floorDiv_7cf53, .initialized RJ9, .code yJ9_floorDiv_7cf53 cJ9_floorDiv_7cf53 3 (some .int), .methodLink RX0 158 yJ9_floorMod_7cf53, .static yJ9_floorMod_7cf53, .code yJ9_floorMod_7cf53 cJ9_floorMod_7cf53 3 (some .int), .methodLink RX0 104 yX0_takeSpare, .instanceMethod yX0_takeSpare, .selects RX0 yX0_takeSpare yX0_takeSpare, .code yX0_takeSpare cX0_takeSpare 3 (some .int)] ++ wsX00)
def wsX0_packStretch : List Cond := .code yX0_packStretch cX0_packStretch 3 none :: ([.fieldLink RX0 108 "SheetRows" "packedCount" "I", .fieldLink RX0 52 "SheetRows" "packed" "[B"] ++ wsX00)
def wsX0_pack : List Cond := .code yX0_pack cX0_pack 3 (some .int) :: ([.fieldLink RX0 108 "SheetRows" "packedCount" "I", .fieldLink RX0 25 "SheetRows" "greys" "[B", .methodLink RX0 111 yX0_packStretch, .instanceMethod yX0_packStretch, .selects RX0 yX0_packStretch yX0_packStretch, .initialized RX0, .code yX0_packStretch cX0_packStretch 3 none, .fieldLink RX0 52 "SheetRows" "packed" "[B"] ++ wsX00)
def wsX0_octet : List Cond := .code yX0_octet cX0_octet 2 (some .byte) :: ([.fieldLink RX0 108 "SheetRows" "packedCount" "I", .classLink RX0 68 RJx00060, .instantiable RJx00060 6, .initialized RJx00060, .fieldLink RX0 52 "SheetRows" "packed" "[B"] ++ wsX00 ++ wsJx000600)
def wsX0_add : List Cond := .code yX0_add cX0_add 2 none :: ([.fieldLink RX0 117 "SheetRows" "collectedCount" "I", .fieldLink RX0 55 "SheetRows" "collected" "[B"] ++ wsX00)
def wsX0_readCollected : List Cond := .code yX0_readCollected cX0_readCollected 6 (some .int) :: ([.fieldLink RX0 117 "SheetRows" "collectedCount" "I", .fieldLink RX0 55 "SheetRows" "collected" "[B", .fieldLink RX0 29 "SheetRows" "spare" "[B"] ++ wsX00)
def wsX0_unpack : List Cond := .code yX0_unpack cX0_unpack 2 (some .int) :: ([.fieldLink RX0 117 "SheetRows" "collectedCount" "I", .methodLink RX0 120 yX0_readCollected, .instanceMethod yX0_readCollected, .selects RX0 yX0_readCollected yX0_readCollected, .initialized RX0, .code yX0_readCollected cX0_readCollected 6 (some .int), .fieldLink RX0 55 "SheetRows" "collected" "[B", .fieldLink RX0 29 "SheetRows" "spare" "[B", .methodLink RX0 104 yX0_takeSpare, .instanceMethod yX0_takeSpare, .selects RX0 yX0_takeSpare yX0_takeSpare, .code yX0_takeSpare cX0_takeSpare 3 (some .int), .fieldLink RX0 25 "SheetRows" "greys" "[B"] ++ wsX00)
def wsX0_mirrorRows : List Cond := .code yX0_mirrorRows cX0_mirrorRows 3 none :: ([.fieldLink RX0 22 "SheetRows" "height" "I", .fieldLink RX0 18 "SheetRows" "width" "I", .fieldLink RX0 29 "SheetRows" "spare" "[B", .fieldLink RX0 25 "SheetRows" "greys" "[B"] ++ wsX00)
def wsX0_reverseRows : List Cond := .code yX0_reverseRows cX0_reverseRows 3 none :: ([.fieldLink RX0 22 "SheetRows" "height" "I", .fieldLink RX0 18 "SheetRows" "width" "I", .fieldLink RX0 29 "SheetRows" "spare" "[B", .fieldLink RX0 25 "SheetRows" "greys" "[B"] ++ wsX00)
def wsX0_invertGreys : List Cond := .code yX0_invertGreys cX0_invertGreys 2 none :: ([.fieldLink RX0 25 "SheetRows" "greys" "[B", .fieldLink RX0 29 "SheetRows" "spare" "[B"] ++ wsX00)
def wsX0_meanOfFour : List Cond := .code yX0_meanOfFour cX0_meanOfFour 4 (some .byte) :: ([.fieldLink RX0 25 "SheetRows" "greys" "[B", .fieldLink RX0 18 "SheetRows" "width" "I"] ++ wsX00)
def wsX0_halve : List Cond := .code yX0_halve cX0_halve 3 none :: ([.fieldLink RX0 29 "SheetRows" "spare" "[B", .fieldLink RX0 22 "SheetRows" "height" "I", .fieldLink RX0 18 "SheetRows" "width" "I", .methodLink RX0 58 yJ7_fill_031fb, .static yJ7_fill_031fb, .initialized RJ7, .code yJ7_fill_031fb cJ7_fill_031fb 4 none, .methodLink RX0 161 yX0_meanOfFour, .instanceMethod yX0_meanOfFour, .selects RX0 yX0_meanOfFour yX0_meanOfFour, .initialized RX0, .code yX0_meanOfFour cX0_meanOfFour 4 (some .byte), .fieldLink RX0 25 "SheetRows" "greys" "[B"] ++ wsX00)
def wsX0_side_r1 : List Cond := [Cond.methodLink RX0 123 yX0_mirrorRows, Cond.instanceMethod yX0_mirrorRows, Cond.selects RX0 yX0_mirrorRows yX0_mirrorRows, Cond.initialized RX0, Cond.code yX0_mirrorRows cX0_mirrorRows 3 none, Cond.fieldLink RX0 22 "SheetRows" "height" "I", Cond.fieldLink RX0 18 "SheetRows" "width" "I", Cond.fieldLink RX0 29 "SheetRows" "spare" "[B", Cond.fieldLink RX0 25 "SheetRows" "greys" "[B", Cond.methodLink RX0 126 yX0_reverseRows, Cond.instanceMethod yX0_reverseRows, Cond.selects RX0 yX0_reverseRows yX0_reverseRows, Cond.code yX0_reverseRows cX0_reverseRows 3 none, Cond.methodLink RX0 129 yX0_invertGreys, Cond.instanceMethod yX0_invertGreys, Cond.selects RX0 yX0_invertGreys yX0_invertGreys, Cond.code yX0_invertGreys cX0_invertGreys 2 none, Cond.methodLink RX0 132 yX0_halve, Cond.instanceMethod yX0_halve, Cond.selects RX0 yX0_halve yX0_halve, Cond.code yX0_halve cX0_halve 3 none, Cond.methodLink RX0 58 yJ7_fill_031fb, Cond.static yJ7_fill_031fb, Cond.initialized RJ7]
def wsX0_side_r2 : List Cond := [Cond.code yJ7_fill_031fb cJ7_fill_031fb 4 none, Cond.methodLink RX0 161 yX0_meanOfFour, Cond.instanceMethod yX0_meanOfFour, Cond.selects RX0 yX0_meanOfFour yX0_meanOfFour, Cond.code yX0_meanOfFour cX0_meanOfFour 4 (some .byte), Cond.methodLink RX0 104 yX0_takeSpare, Cond.instanceMethod yX0_takeSpare, Cond.selects RX0 yX0_takeSpare yX0_takeSpare, Cond.code yX0_takeSpare cX0_takeSpare 3 (some .int)]
def wsX0_side : List Cond := .code yX0_side cX0_side 2 (some .int) :: ((wsX0_side_r1 ++ wsX0_side_r2) ++ wsX00)
def wsX0_inverted_r1 : List Cond := [Cond.methodLink RX0 135 yX0_threshold, Cond.instanceMethod yX0_threshold, Cond.selects RX0 yX0_threshold yX0_threshold, Cond.initialized RX0, Cond.code yX0_threshold cX0_threshold 5 (some .int), Cond.methodLink RX0 75 yX0_tallyGreys, Cond.instanceMethod yX0_tallyGreys, Cond.selects RX0 yX0_tallyGreys yX0_tallyGreys, Cond.code yX0_tallyGreys cX0_tallyGreys 2 none, Cond.fieldLink RX0 32 "SheetRows" "countBelow" "[I", Cond.fieldLink RX0 25 "SheetRows" "greys" "[B", Cond.fieldLink RX0 36 "SheetRows" "sumBelow" "[I", Cond.methodLink RX0 142 yJ7_fill_53178, Cond.static yJ7_fill_53178, Cond.initialized RJ7, Cond.code yJ7_fill_53178 cJ7_fill_53178 4 none, Cond.methodLink RX0 78 yX0_spreadAt, Cond.instanceMethod yX0_spreadAt, Cond.selects RX0 yX0_spreadAt yX0_spreadAt, Cond.code yX0_spreadAt cX0_spreadAt 2 (some .int), Cond.methodLink RX0 145 yX0_spreadOfLot, Cond.instanceMethod yX0_spreadOfLot, Cond.selects RX0 yX0_spreadOfLot yX0_spreadOfLot, Cond.code yX0_spreadOfLot cX0_spreadOfLot 8 (some .int)]
def wsX0_inverted_r2 : List Cond := [Cond.methodLink RX0 138 yX0_hasMostlyLow, Cond.instanceMethod yX0_hasMostlyLow, Cond.selects RX0 yX0_hasMostlyLow yX0_hasMostlyLow, Cond.code yX0_hasMostlyLow cX0_hasMostlyLow 2 (some .boolean)]
def wsX0_inverted : List Cond := .code yX0_inverted cX0_inverted 1 (some .boolean) :: ((wsX0_inverted_r1 ++ wsX0_inverted_r2) ++ wsX00)
def wsX0_grey : List Cond := .code yX0_grey cX0_grey 3 (some .int) :: ([.classLink RX0 68 RJx00060, .instantiable RJx00060 6, .initialized RJx00060, .fieldLink RX0 25 "SheetRows" "greys" "[B", .fieldLink RX0 18 "SheetRows" "width" "I", .methodLink RX0 64 yX0_isOnSheet, .instanceMethod yX0_isOnSheet, .selects RX0 yX0_isOnSheet yX0_isOnSheet, .initialized RX0, .code yX0_isOnSheet cX0_isOnSheet 3 (some .boolean), .fieldLink RX0 22 "SheetRows" "height" "I"] ++ wsJx000600 ++ wsX00)
def wsX1_init : List Cond := .code yX1_init cX1_init 4 none :: ([.methodLink RX1 1 objectInit, .instanceMethod objectInit, .code objectInit ⟨#[0xb1]⟩ 1 none, .arrayClass .int, .fieldLink RX1 7 "SheetRowsModel" "greys" "[I", .fieldLink RX1 13 "SheetRowsModel" "other" "[I", .fieldLink RX1 16 "SheetRowsModel" "counts" "[I", .fieldLink RX1 19 "SheetRowsModel" "labels" "[I", .fieldLink RX1 22 "SheetRowsModel" "firsts" "[I", .fieldLink RX1 25 "SheetRowsModel" "told" "[I", .arrayClass .byte, .fieldLink RX1 28 "SheetRowsModel" "pairs" "[B", .fieldLink RX1 32 "SheetRowsModel" "bytes" "[B", .fieldLink RX1 35 "SheetRowsModel" "w" "I", .fieldLink RX1 39 "SheetRowsModel" "h" "I", .fieldLink RX1 42 "SheetRowsModel" "n" "I"] ++ wsX10)
def wsX1_thrown : List Cond := .code yX1_thrown cX1_thrown 1 (some .int) :: ([.fieldLink RX1 45 "SheetRowsModel" "thrown" "I"] ++ wsX10)
def wsX1_refused : List Cond := .code yX1_refused cX1_refused 2 (some .boolean) :: ([.fieldLink RX1 45 "SheetRowsModel" "thrown" "I"] ++ wsX10)
def wsX1_isOn : List Cond := .code yX1_isOn cX1_isOn 3 (some .boolean) :: ([.fieldLink RX1 35 "SheetRowsModel" "w" "I", .fieldLink RX1 39 "SheetRowsModel" "h" "I"] ++ wsX10)
def wsX1_put : List Cond := .code yX1_put cX1_put 4 none :: ([.fieldLink RX1 7 "SheetRowsModel" "greys" "[I", .fieldLink RX1 35 "SheetRowsModel" "w" "I", .methodLink RX1 48 yX1_isOn, .instanceMethod yX1_isOn, .selects RX1 yX1_isOn yX1_isOn, .initialized RX1, .code yX1_isOn cX1_isOn 3 (some .boolean), .fieldLink RX1 39 "SheetRowsModel" "h" "I", .methodLink RX1 52 yX1_refused, .instanceMethod yX1_refused, .selects RX1 yX1_refused yX1_refused, .code yX1_refused cX1_refused 2 (some .boolean), .fieldLink RX1 45 "SheetRowsModel" "thrown" "I"] ++ wsX10)
def wsX1_grey : List Cond := .code yX1_grey cX1_grey 3 (some .int) :: ([.fieldLink RX1 7 "SheetRowsModel" "greys" "[I", .fieldLink RX1 35 "SheetRowsModel" "w" "I", .methodLink RX1 48 yX1_isOn, .instanceMethod yX1_isOn, .selects RX1 yX1_isOn yX1_isOn, .initialized RX1, .code yX1_isOn cX1_isOn 3 (some .boolean), .fieldLink RX1 39 "SheetRowsModel" "h" "I", .methodLink RX1 52 yX1_refused, .instanceMethod yX1_refused, .selects RX1 yX1_refused yX1_refused, .code yX1_refused cX1_refused 2 (some .boolean), .fieldLink RX1 45 "SheetRowsModel" "thrown" "I"] ++ wsX10)
def wsX1_spread : List Cond := .code yX1_spread cX1_spread 8 (some .int) :: ([.fieldLink RX1 16 "SheetRowsModel" "counts" "[I"] ++ wsX10)
def wsX1_thresholdNow : List Cond := .code yX1_thresholdNow cX1_thresholdNow 5 (some .int) :: ([.fieldLink RX1 16 "SheetRowsModel" "counts" "[I", .fieldLink RX1 42 "SheetRowsModel" "n" "I", .fieldLink RX1 7 "SheetRowsModel" "greys" "[I", .methodLink RX1 56 yX1_spread, .instanceMethod yX1_spread, .selects RX1 yX1_spread yX1_spread, .initialized RX1, .code yX1_spread cX1_spread 8 (some .int)] ++ wsX10)
def wsX1_threshold : List Cond := .code yX1_threshold cX1_threshold 1 (some .int) :: ([.fieldLink RX1 45 "SheetRowsModel" "thrown" "I", .methodLink RX1 60 yX1_thresholdNow, .instanceMethod yX1_thresholdNow, .selects RX1 yX1_thresholdNow yX1_thresholdNow, .initialized RX1, .code yX1_thresholdNow cX1_thresholdNow 5 (some .int), .fieldLink RX1 16 "SheetRowsModel" "counts" "[I", .fieldLink RX1 42 "SheetRowsModel" "n" "I", .fieldLink RX1 7 "SheetRowsModel" "greys" "[I", .methodLink RX1 56 yX1_spread, .instanceMethod yX1_spread, .selects RX1 yX1_spread yX1_spread, .code yX1_spread cX1_spread 8 (some .int)] ++ wsX10)
def wsX1_isInverted : List Cond := .code yX1_isInverted cX1_isInverted 4 (some .boolean) :: ([.fieldLink RX1 42 "SheetRowsModel" "n" "I", .fieldLink RX1 7 "SheetRowsModel" "greys" "[I"] ++ wsX10)
def wsX1_inverted : List Cond := .code yX1_inverted cX1_inverted 1 (some .boolean) :: ([.fieldLink RX1 45 "SheetRowsModel" "thrown" "I", .methodLink RX1 60 yX1_thresholdNow, .instanceMethod yX1_thresholdNow, .selects RX1 yX1_thresholdNow yX1_thresholdNow, .initialized RX1, .code yX1_thresholdNow cX1_thresholdNow 5 (some .int), .fieldLink RX1 16 "SheetRowsModel" "counts" "[I", .fieldLink RX1 42 "SheetRowsModel" "n" "I", .fieldLink RX1 7 "SheetRowsModel" "greys" "[I", .methodLink RX1 56 yX1_spread, .instanceMethod yX1_spread, .selects RX1 yX1_spread yX1_spread, .code yX1_spread cX1_spread 8 (some .int), .methodLink RX1 64 yX1_isInverted, .instanceMethod yX1_isInverted, .selects RX1 yX1_isInverted yX1_isInverted, .code yX1_isInverted cX1_isInverted 4 (some .boolean)] ++ wsX10)
def wsX1_darken : List Cond := .code yX1_darken cX1_darken 5 none :: ([.fieldLink RX1 42 "SheetRowsModel" "n" "I", .fieldLink RX1 7 "SheetRowsModel" "greys" "[I", .fieldLink RX1 13 "SheetRowsModel" "other" "[I", .methodLink RX1 60 yX1_thresholdNow, .instanceMethod yX1_thresholdNow, .selects RX1 yX1_thresholdNow yX1_thresholdNow, .initialized RX1, .code yX1_thresholdNow cX1_thresholdNow 5 (some .int), .fieldLink RX1 16 "SheetRowsModel" "counts" "[I", .methodLink RX1 56 yX1_spread, .instanceMethod yX1_spread, .selects RX1 yX1_spread yX1_spread, .code yX1_spread cX1_spread 8 (some .int), .methodLink RX1 64 yX1_isInverted, .instanceMethod yX1_isInverted, .selects RX1 yX1_isInverted yX1_isInverted, .code yX1_isInverted cX1_isInverted 4 (some .boolean)] ++ wsX10)
def wsX1_leastAround : List Cond := .code yX1_leastAround cX1_leastAround 7 (some .int) :: ([.fieldLink RX1 19 "SheetRowsModel" "labels" "[I", .fieldLink RX1 35 "SheetRowsModel" "w" "I", .fieldLink RX1 13 "SheetRowsModel" "other" "[I", .methodLink RX1 48 yX1_isOn, .instanceMethod yX1_isOn, .selects RX1 yX1_isOn yX1_isOn, .initialized RX1, .code yX1_isOn cX1_isOn 3 (some .boolean), .fieldLink RX1 39 "SheetRowsModel" "h" "I"] ++ wsX10)
def wsX1_sizeOf : List Cond := .code yX1_sizeOf cX1_sizeOf 4 (some .int) :: ([.fieldLink RX1 42 "SheetRowsModel" "n" "I", .fieldLink RX1 13 "SheetRowsModel" "other" "[I", .fieldLink RX1 19 "SheetRowsModel" "labels" "[I"] ++ wsX10)
def wsX1_tell : List Cond := .code yX1_tell cX1_tell 6 none :: ([.fieldLink RX1 75 "SheetRowsModel" "parts" "I", .fieldLink RX1 25 "SheetRowsModel" "told" "[I", .fieldLink RX1 35 "SheetRowsModel" "w" "I", .fieldLink RX1 39 "SheetRowsModel" "h" "I", .fieldLink RX1 42 "SheetRowsModel" "n" "I", .fieldLink RX1 13 "SheetRowsModel" "other" "[I", .fieldLink RX1 19 "SheetRowsModel" "labels" "[I"] ++ wsX10)
def wsX1_parts_r1 : List Cond := [Cond.fieldLink RX1 45 "SheetRowsModel" "thrown" "I", Cond.fieldLink RX1 42 "SheetRowsModel" "n" "I", Cond.fieldLink RX1 19 "SheetRowsModel" "labels" "[I", Cond.fieldLink RX1 13 "SheetRowsModel" "other" "[I", Cond.fieldLink RX1 75 "SheetRowsModel" "parts" "I", Cond.methodLink RX1 68 yX1_darken, Cond.instanceMethod yX1_darken, Cond.selects RX1 yX1_darken yX1_darken, Cond.initialized RX1, Cond.code yX1_darken cX1_darken 5 none, Cond.fieldLink RX1 7 "SheetRowsModel" "greys" "[I", Cond.methodLink RX1 60 yX1_thresholdNow, Cond.instanceMethod yX1_thresholdNow, Cond.selects RX1 yX1_thresholdNow yX1_thresholdNow, Cond.code yX1_thresholdNow cX1_thresholdNow 5 (some .int), Cond.fieldLink RX1 16 "SheetRowsModel" "counts" "[I", Cond.methodLink RX1 56 yX1_spread, Cond.instanceMethod yX1_spread, Cond.selects RX1 yX1_spread yX1_spread, Cond.code yX1_spread cX1_spread 8 (some .int), Cond.methodLink RX1 64 yX1_isInverted, Cond.instanceMethod yX1_isInverted, Cond.selects RX1 yX1_isInverted yX1_isInverted, Cond.code yX1_isInverted cX1_isInverted 4 (some .boolean)]
def wsX1_parts_r2 : List Cond := [Cond.methodLink RX1 71 yX1_leastAround, Cond.instanceMethod yX1_leastAround, Cond.selects RX1 yX1_leastAround yX1_leastAround, Cond.code yX1_leastAround cX1_leastAround 7 (some .int), Cond.fieldLink RX1 35 "SheetRowsModel" "w" "I", Cond.methodLink RX1 48 yX1_isOn, Cond.instanceMethod yX1_isOn, Cond.selects RX1 yX1_isOn yX1_isOn, Cond.code yX1_isOn cX1_isOn 3 (some .boolean), Cond.fieldLink RX1 39 "SheetRowsModel" "h" "I", Cond.methodLink RX1 78 yX1_sizeOf, Cond.instanceMethod yX1_sizeOf, Cond.selects RX1 yX1_sizeOf yX1_sizeOf, Cond.code yX1_sizeOf cX1_sizeOf 4 (some .int), Cond.methodLink RX1 81 yX1_tell, Cond.instanceMethod yX1_tell, Cond.selects RX1 yX1_tell yX1_tell, Cond.code yX1_tell cX1_tell 6 none, Cond.fieldLink RX1 25 "SheetRowsModel" "told" "[I"]
def wsX1_parts : List Cond := .code yX1_parts cX1_parts 5 (some .int) :: ((wsX1_parts_r1 ++ wsX1_parts_r2) ++ wsX10)
def wsX1_part : List Cond := .code yX1_part cX1_part 3 (some .int) :: ([.fieldLink RX1 45 "SheetRowsModel" "thrown" "I", .fieldLink RX1 75 "SheetRowsModel" "parts" "I", .fieldLink RX1 25 "SheetRowsModel" "told" "[I"] ++ wsX10)
def wsX1_rowOf : List Cond := .code yX1_rowOf cX1_rowOf 5 (some .int) :: ([.fieldLink RX1 39 "SheetRowsModel" "h" "I"] ++ wsX10)
def wsX1_skew_r1 : List Cond := [Cond.fieldLink RX1 45 "SheetRowsModel" "thrown" "I", Cond.fieldLink RX1 39 "SheetRowsModel" "h" "I", Cond.fieldLink RX1 16 "SheetRowsModel" "counts" "[I", Cond.fieldLink RX1 42 "SheetRowsModel" "n" "I", Cond.fieldLink RX1 35 "SheetRowsModel" "w" "I", Cond.fieldLink RX1 13 "SheetRowsModel" "other" "[I", Cond.methodLink RX1 68 yX1_darken, Cond.instanceMethod yX1_darken, Cond.selects RX1 yX1_darken yX1_darken, Cond.initialized RX1, Cond.code yX1_darken cX1_darken 5 none, Cond.fieldLink RX1 7 "SheetRowsModel" "greys" "[I", Cond.methodLink RX1 60 yX1_thresholdNow, Cond.instanceMethod yX1_thresholdNow, Cond.selects RX1 yX1_thresholdNow yX1_thresholdNow, Cond.code yX1_thresholdNow cX1_thresholdNow 5 (some .int), Cond.methodLink RX1 56 yX1_spread, Cond.instanceMethod yX1_spread, Cond.selects RX1 yX1_spread yX1_spread, Cond.code yX1_spread cX1_spread 8 (some .int), Cond.methodLink RX1 64 yX1_isInverted, Cond.instanceMethod yX1_isInverted, Cond.selects RX1 yX1_isInverted yX1_isInverted, Cond.code yX1_isInverted cX1_isInverted 4 (some .boolean)]
def wsX1_skew_r2 : List Cond := [Cond.methodLink RX1 85 yX1_rowOf, Cond.instanceMethod yX1_rowOf, Cond.selects RX1 yX1_rowOf yX1_rowOf, Cond.code yX1_rowOf cX1_rowOf 5 (some .int)]
def wsX1_skew : List Cond := .code yX1_skew cX1_skew 7 (some .int) :: ((wsX1_skew_r1 ++ wsX1_skew_r2) ++ wsX10)
def wsX1_change : List Cond := .code yX1_change cX1_change 3 (some .int) :: ([.fieldLink RX1 42 "SheetRowsModel" "n" "I", .fieldLink RX1 13 "SheetRowsModel" "other" "[I", .fieldLink RX1 7 "SheetRowsModel" "greys" "[I"] ++ wsX10)
def wsX1_turn : List Cond := .code yX1_turn cX1_turn 3 (some .int) :: ([.fieldLink RX1 45 "SheetRowsModel" "thrown" "I", .fieldLink RX1 42 "SheetRowsModel" "n" "I", .fieldLink RX1 13 "SheetRowsModel" "other" "[I", .fieldLink RX1 35 "SheetRowsModel" "w" "I", .fieldLink RX1 7 "SheetRowsModel" "greys" "[I", .methodLink RX1 85 yX1_rowOf, .instanceMethod yX1_rowOf, .selects RX1 yX1_rowOf yX1_rowOf, .initialized RX1, .code yX1_rowOf cX1_rowOf 5 (some .int), .fieldLink RX1 39 "SheetRowsModel" "h" "I", .methodLink RX1 89 yX1_change, .instanceMethod yX1_change, .selects RX1 yX1_change yX1_change, .code yX1_change cX1_change 3 (some .int)] ++ wsX10)
def wsX1_pack : List Cond := .code yX1_pack cX1_pack 3 (some .int) :: ([.fieldLink RX1 45 "SheetRowsModel" "thrown" "I", .fieldLink RX1 92 "SheetRowsModel" "packed" "I", .fieldLink RX1 42 "SheetRowsModel" "n" "I", .fieldLink RX1 7 "SheetRowsModel" "greys" "[I", .fieldLink RX1 28 "SheetRowsModel" "pairs" "[B"] ++ wsX10)
def wsX1_octet : List Cond := .code yX1_octet cX1_octet 2 (some .byte) :: ([.fieldLink RX1 92 "SheetRowsModel" "packed" "I", .fieldLink RX1 28 "SheetRowsModel" "pairs" "[B", .methodLink RX1 52 yX1_refused, .instanceMethod yX1_refused, .selects RX1 yX1_refused yX1_refused, .initialized RX1, .code yX1_refused cX1_refused 2 (some .boolean), .fieldLink RX1 45 "SheetRowsModel" "thrown" "I"] ++ wsX10)
def wsX1_add : List Cond := .code yX1_add cX1_add 2 none :: ([.fieldLink RX1 45 "SheetRowsModel" "thrown" "I", .fieldLink RX1 95 "SheetRowsModel" "collected" "I", .fieldLink RX1 32 "SheetRowsModel" "bytes" "[B"] ++ wsX10)
def wsX1_unpack : List Cond := .code yX1_unpack cX1_unpack 6 (some .int) :: ([.fieldLink RX1 45 "SheetRowsModel" "thrown" "I", .fieldLink RX1 95 "SheetRowsModel" "collected" "I", .fieldLink RX1 42 "SheetRowsModel" "n" "I", .fieldLink RX1 32 "SheetRowsModel" "bytes" "[B", .fieldLink RX1 13 "SheetRowsModel" "other" "[I", .methodLink RX1 89 yX1_change, .instanceMethod yX1_change, .selects RX1 yX1_change yX1_change, .initialized RX1, .code yX1_change cX1_change 3 (some .int), .fieldLink RX1 7 "SheetRowsModel" "greys" "[I"] ++ wsX10)
def wsX1_mean : List Cond := .code yX1_mean cX1_mean 4 (some .int) :: ([.fieldLink RX1 35 "SheetRowsModel" "w" "I", .fieldLink RX1 7 "SheetRowsModel" "greys" "[I"] ++ wsX10)
def wsX1_side : List Cond := .code yX1_side cX1_side 5 (some .int) :: ([.fieldLink RX1 45 "SheetRowsModel" "thrown" "I", .fieldLink RX1 42 "SheetRowsModel" "n" "I", .fieldLink RX1 35 "SheetRowsModel" "w" "I", .fieldLink RX1 13 "SheetRowsModel" "other" "[I", .fieldLink RX1 7 "SheetRowsModel" "greys" "[I", .fieldLink RX1 39 "SheetRowsModel" "h" "I", .methodLink RX1 98 yX1_mean, .instanceMethod yX1_mean, .selects RX1 yX1_mean yX1_mean, .initialized RX1, .code yX1_mean cX1_mean 4 (some .int), .methodLink RX1 89 yX1_change, .instanceMethod yX1_change, .selects RX1 yX1_change yX1_change, .code yX1_change cX1_change 3 (some .int)] ++ wsX10)
def wsJx00060_init_a7421 : List Cond := .code yJx00060_init_a7421 cJx00060_init_a7421 2 none :: ([])
def wsJ9_max_7cf53 : List Cond := .code yJ9_max_7cf53 cJ9_max_7cf53 2 (some .int) :: ([])
def wsJ9_min_7cf53 : List Cond := .code yJ9_min_7cf53 cJ9_min_7cf53 2 (some .int) :: ([])
def wsL_cell : List Cond := .code yL_cell cL_cell 2 (some .int) :: ([])
def wsL_put : List Cond := .codeWith yL_put cL_put 5 (some .int) [(0, 7, 10, 13)] :: ([.methodLink RL 7 yX0_put, .instanceMethod yX0_put, .selects RX0 yX0_put yX0_put, .initialized RX0, .code yX0_put cX0_put 4 none, .classLink RX0 68 RJx00060, .instantiable RJx00060 6, .initialized RJx00060, .fieldLink RX0 25 "SheetRows" "greys" "[B", .fieldLink RX0 18 "SheetRows" "width" "I", .methodLink RX0 64 yX0_isOnSheet, .instanceMethod yX0_isOnSheet, .selects RX0 yX0_isOnSheet yX0_isOnSheet, .code yX0_isOnSheet cX0_isOnSheet 3 (some .boolean), .fieldLink RX0 22 "SheetRows" "height" "I"] ++ wsJx000600 ++ wsX00)
def wsL_octet : List Cond := .codeWith yL_octet cL_octet 4 (some .int) [(0, 9, 12, 13)] :: ([.methodLink RL 15 yX0_octet, .instanceMethod yX0_octet, .selects RX0 yX0_octet yX0_octet, .initialized RX0, .code yX0_octet cX0_octet 2 (some .byte), .fieldLink RX0 108 "SheetRows" "packedCount" "I", .classLink RX0 68 RJx00060, .instantiable RJx00060 6, .initialized RJx00060, .fieldLink RX0 52 "SheetRows" "packed" "[B"] ++ wsX00 ++ wsJx000600)
def wsL_grey : List Cond := .codeWith yL_grey cL_grey 5 (some .int) [(0, 10, 13, 13)] :: ([.methodLink RL 19 yX0_grey, .instanceMethod yX0_grey, .selects RX0 yX0_grey yX0_grey, .initialized RX0, .code yX0_grey cX0_grey 3 (some .int), .classLink RX0 68 RJx00060, .instantiable RJx00060 6, .initialized RJx00060, .fieldLink RX0 25 "SheetRows" "greys" "[B", .fieldLink RX0 18 "SheetRows" "width" "I", .methodLink RX0 64 yX0_isOnSheet, .instanceMethod yX0_isOnSheet, .selects RX0 yX0_isOnSheet yX0_isOnSheet, .code yX0_isOnSheet cX0_isOnSheet 3 (some .boolean), .fieldLink RX0 22 "SheetRows" "height" "I"] ++ wsJx000600 ++ wsX00)
def wsL_law_r1 : List Cond := [Cond.classLink RL 8 RX0, Cond.instantiable RX0 16, Cond.initialized RX0, Cond.classLink RL 32 RX1, Cond.instantiable RX1 15, Cond.initialized RX1, Cond.arrayClass .long, Cond.methodLink RL 23 yL_cell, Cond.static yL_cell, Cond.initialized RL, Cond.code yL_cell cL_cell 2 (some .int), Cond.methodLink RL 29 yX0_init, Cond.instanceMethod yX0_init, Cond.code yX0_init cX0_init 4 none, Cond.methodLink RX0 3 objectInit, Cond.instanceMethod objectInit, Cond.code objectInit ⟨#[0xb1]⟩ 1 none, Cond.methodLink RX0 9 Lib.Math.min.name, Cond.static Lib.Math.min.name, Cond.initialized "java/lang/Math", Cond.code Lib.Math.min.name Lib.Math.min.code 2 (some .int), Cond.methodLink RX0 15 Lib.Math.max.name, Cond.static Lib.Math.max.name, Cond.code Lib.Math.max.name Lib.Math.max.code 2 (some .int)]
def wsL_law_r2 : List Cond := [Cond.fieldLink RX0 18 "SheetRows" "width" "I", Cond.fieldLink RX0 22 "SheetRows" "height" "I", Cond.arrayClass .byte, Cond.fieldLink RX0 25 "SheetRows" "greys" "[B", Cond.fieldLink RX0 29 "SheetRows" "spare" "[B", Cond.arrayClass .int, Cond.fieldLink RX0 32 "SheetRows" "countBelow" "[I", Cond.fieldLink RX0 36 "SheetRows" "sumBelow" "[I", Cond.arrayClass .boolean, Cond.fieldLink RX0 39 "SheetRows" "dark" "[Z", Cond.fieldLink RX0 43 "SheetRows" "darkInRow" "[I", Cond.fieldLink RX0 46 "SheetRows" "reached" "[I", Cond.fieldLink RX0 49 "SheetRows" "partFacts" "[I", Cond.fieldLink RX0 52 "SheetRows" "packed" "[B", Cond.fieldLink RX0 55 "SheetRows" "collected" "[B", Cond.methodLink RX0 58 yJ7_fill_031fb, Cond.static yJ7_fill_031fb, Cond.initialized RJ7, Cond.code yJ7_fill_031fb cJ7_fill_031fb 4 none, Cond.methodLink RL 34 yX1_init, Cond.instanceMethod yX1_init, Cond.code yX1_init cX1_init 4 none, Cond.methodLink RX1 1 objectInit, Cond.fieldLink RX1 7 "SheetRowsModel" "greys" "[I"]
def wsL_law_r3 : List Cond := [Cond.fieldLink RX1 13 "SheetRowsModel" "other" "[I", Cond.fieldLink RX1 16 "SheetRowsModel" "counts" "[I", Cond.fieldLink RX1 19 "SheetRowsModel" "labels" "[I", Cond.fieldLink RX1 22 "SheetRowsModel" "firsts" "[I", Cond.fieldLink RX1 25 "SheetRowsModel" "told" "[I", Cond.fieldLink RX1 28 "SheetRowsModel" "pairs" "[B", Cond.fieldLink RX1 32 "SheetRowsModel" "bytes" "[B", Cond.fieldLink RX1 35 "SheetRowsModel" "w" "I", Cond.fieldLink RX1 39 "SheetRowsModel" "h" "I", Cond.fieldLink RX1 42 "SheetRowsModel" "n" "I", Cond.methodLink RL 35 yL_put, Cond.static yL_put, Cond.codeWith yL_put cL_put 5 (some .int) [(0, 7, 10, 13)], Cond.methodLink RL 7 yX0_put, Cond.instanceMethod yX0_put, Cond.selects RX0 yX0_put yX0_put, Cond.code yX0_put cX0_put 4 none, Cond.classLink RX0 68 RJx00060, Cond.instantiable RJx00060 6, Cond.initialized RJx00060, Cond.methodLink RX0 64 yX0_isOnSheet, Cond.instanceMethod yX0_isOnSheet, Cond.selects RX0 yX0_isOnSheet yX0_isOnSheet, Cond.code yX0_isOnSheet cX0_isOnSheet 3 (some .boolean)]
def wsL_law_r4 : List Cond := [Cond.methodLink RL 38 yX1_put, Cond.instanceMethod yX1_put, Cond.selects RX1 yX1_put yX1_put, Cond.code yX1_put cX1_put 4 none, Cond.methodLink RX1 48 yX1_isOn, Cond.instanceMethod yX1_isOn, Cond.selects RX1 yX1_isOn yX1_isOn, Cond.code yX1_isOn cX1_isOn 3 (some .boolean), Cond.methodLink RX1 52 yX1_refused, Cond.instanceMethod yX1_refused, Cond.selects RX1 yX1_refused yX1_refused, Cond.code yX1_refused cX1_refused 2 (some .boolean), Cond.fieldLink RX1 45 "SheetRowsModel" "thrown" "I", Cond.methodLink RL 39 yX1_thrown, Cond.instanceMethod yX1_thrown, Cond.selects RX1 yX1_thrown yX1_thrown, Cond.code yX1_thrown cX1_thrown 1 (some .int), Cond.methodLink RL 43 yX0_threshold, Cond.instanceMethod yX0_threshold, Cond.selects RX0 yX0_threshold yX0_threshold, Cond.code yX0_threshold cX0_threshold 5 (some .int), Cond.methodLink RX0 75 yX0_tallyGreys, Cond.instanceMethod yX0_tallyGreys, Cond.selects RX0 yX0_tallyGreys yX0_tallyGreys]
def wsL_law_r5 : List Cond := [Cond.code yX0_tallyGreys cX0_tallyGreys 2 none, Cond.methodLink RX0 142 yJ7_fill_53178, Cond.static yJ7_fill_53178, Cond.code yJ7_fill_53178 cJ7_fill_53178 4 none, Cond.methodLink RX0 78 yX0_spreadAt, Cond.instanceMethod yX0_spreadAt, Cond.selects RX0 yX0_spreadAt yX0_spreadAt, Cond.code yX0_spreadAt cX0_spreadAt 2 (some .int), Cond.methodLink RX0 145 yX0_spreadOfLot, Cond.instanceMethod yX0_spreadOfLot, Cond.selects RX0 yX0_spreadOfLot yX0_spreadOfLot, Cond.code yX0_spreadOfLot cX0_spreadOfLot 8 (some .int), Cond.methodLink RL 46 yX1_threshold, Cond.instanceMethod yX1_threshold, Cond.selects RX1 yX1_threshold yX1_threshold, Cond.code yX1_threshold cX1_threshold 1 (some .int), Cond.methodLink RX1 60 yX1_thresholdNow, Cond.instanceMethod yX1_thresholdNow, Cond.selects RX1 yX1_thresholdNow yX1_thresholdNow, Cond.code yX1_thresholdNow cX1_thresholdNow 5 (some .int), Cond.methodLink RX1 56 yX1_spread, Cond.instanceMethod yX1_spread, Cond.selects RX1 yX1_spread yX1_spread, Cond.code yX1_spread cX1_spread 8 (some .int)]
def wsL_law_r6 : List Cond := [Cond.methodLink RL 47 yX0_parts, Cond.instanceMethod yX0_parts, Cond.selects RX0 yX0_parts yX0_parts, Cond.code yX0_parts cX0_parts 2 (some .int), Cond.fieldLink RX0 85 "SheetRows" "partCount" "I", Cond.fieldLink RX0 92 "SheetRows" "reachedCount" "I", Cond.methodLink RX0 82 yX0_markDark, Cond.instanceMethod yX0_markDark, Cond.selects RX0 yX0_markDark yX0_markDark, Cond.code yX0_markDark cX0_markDark 5 none, Cond.methodLink RX0 135 yX0_threshold, Cond.methodLink RX0 138 yX0_hasMostlyLow, Cond.instanceMethod yX0_hasMostlyLow, Cond.selects RX0 yX0_hasMostlyLow yX0_hasMostlyLow, Cond.code yX0_hasMostlyLow cX0_hasMostlyLow 2 (some .boolean), Cond.methodLink RX0 88 yX0_reachPart, Cond.instanceMethod yX0_reachPart, Cond.selects RX0 yX0_reachPart yX0_reachPart, Cond.code yX0_reachPart cX0_reachPart 3 none, Cond.methodLink RX0 148 yX0_reach, Cond.instanceMethod yX0_reach, Cond.selects RX0 yX0_reach yX0_reach, Cond.code yX0_reach cX0_reach 2 none, Cond.methodLink RX0 151 yX0_reachAround]
def wsL_law_r7 : List Cond := [Cond.instanceMethod yX0_reachAround, Cond.selects RX0 yX0_reachAround yX0_reachAround, Cond.code yX0_reachAround cX0_reachAround 5 none, Cond.methodLink RX0 95 yX0_keepPart, Cond.instanceMethod yX0_keepPart, Cond.selects RX0 yX0_keepPart yX0_keepPart, Cond.code yX0_keepPart cX0_keepPart 11 none, Cond.methodLink RL 50 yX1_parts, Cond.instanceMethod yX1_parts, Cond.selects RX1 yX1_parts yX1_parts, Cond.code yX1_parts cX1_parts 5 (some .int), Cond.fieldLink RX1 75 "SheetRowsModel" "parts" "I", Cond.methodLink RX1 68 yX1_darken, Cond.instanceMethod yX1_darken, Cond.selects RX1 yX1_darken yX1_darken, Cond.code yX1_darken cX1_darken 5 none, Cond.methodLink RX1 64 yX1_isInverted, Cond.instanceMethod yX1_isInverted, Cond.selects RX1 yX1_isInverted yX1_isInverted, Cond.code yX1_isInverted cX1_isInverted 4 (some .boolean), Cond.methodLink RX1 71 yX1_leastAround, Cond.instanceMethod yX1_leastAround, Cond.selects RX1 yX1_leastAround yX1_leastAround, Cond.code yX1_leastAround cX1_leastAround 7 (some .int)]
def wsL_law_r8 : List Cond := [Cond.methodLink RX1 78 yX1_sizeOf, Cond.instanceMethod yX1_sizeOf, Cond.selects RX1 yX1_sizeOf yX1_sizeOf, Cond.code yX1_sizeOf cX1_sizeOf 4 (some .int), Cond.methodLink RX1 81 yX1_tell, Cond.instanceMethod yX1_tell, Cond.selects RX1 yX1_tell yX1_tell, Cond.code yX1_tell cX1_tell 6 none, Cond.methodLink RL 51 yX0_part, Cond.instanceMethod yX0_part, Cond.selects RX0 yX0_part yX0_part, Cond.code yX0_part cX0_part 3 (some .int), Cond.methodLink RL 54 yX1_part, Cond.instanceMethod yX1_part, Cond.selects RX1 yX1_part yX1_part, Cond.code yX1_part cX1_part 3 (some .int), Cond.methodLink RL 55 yX0_skew, Cond.instanceMethod yX0_skew, Cond.selects RX0 yX0_skew yX0_skew, Cond.code yX0_skew cX0_skew 6 (some .int), Cond.methodLink RX0 98 yX0_sumOfSquares, Cond.instanceMethod yX0_sumOfSquares, Cond.selects RX0 yX0_sumOfSquares yX0_sumOfSquares, Cond.code yX0_sumOfSquares cX0_sumOfSquares 5 (some .int)]
def wsL_law_r9 : List Cond := [Cond.methodLink RX0 101 yX0_shearAt, Cond.instanceMethod yX0_shearAt, Cond.selects RX0 yX0_shearAt yX0_shearAt, Cond.code yX0_shearAt cX0_shearAt 3 (some .int), Cond.methodLink RX0 155 yJ9_floorDiv_7cf53, Cond.static yJ9_floorDiv_7cf53, Cond.initialized RJ9, Cond.code yJ9_floorDiv_7cf53 cJ9_floorDiv_7cf53 3 (some .int), Cond.methodLink RX0 158 yJ9_floorMod_7cf53, Cond.static yJ9_floorMod_7cf53, Cond.code yJ9_floorMod_7cf53 cJ9_floorMod_7cf53 3 (some .int), Cond.methodLink RL 58 yX1_skew, Cond.instanceMethod yX1_skew, Cond.selects RX1 yX1_skew yX1_skew, Cond.code yX1_skew cX1_skew 7 (some .int), Cond.methodLink RX1 85 yX1_rowOf, Cond.instanceMethod yX1_rowOf, Cond.selects RX1 yX1_rowOf yX1_rowOf, Cond.code yX1_rowOf cX1_rowOf 5 (some .int), Cond.methodLink RL 59 yX0_turn, Cond.instanceMethod yX0_turn, Cond.selects RX0 yX0_turn yX0_turn, Cond.code yX0_turn cX0_turn 5 (some .int), Cond.methodLink RX0 104 yX0_takeSpare]
def wsL_law_r10 : List Cond := [Cond.instanceMethod yX0_takeSpare, Cond.selects RX0 yX0_takeSpare yX0_takeSpare, Cond.code yX0_takeSpare cX0_takeSpare 3 (some .int), Cond.methodLink RL 63 yX1_turn, Cond.instanceMethod yX1_turn, Cond.selects RX1 yX1_turn yX1_turn, Cond.code yX1_turn cX1_turn 3 (some .int), Cond.methodLink RX1 89 yX1_change, Cond.instanceMethod yX1_change, Cond.selects RX1 yX1_change yX1_change, Cond.code yX1_change cX1_change 3 (some .int), Cond.methodLink RL 64 yX0_pack, Cond.instanceMethod yX0_pack, Cond.selects RX0 yX0_pack yX0_pack, Cond.code yX0_pack cX0_pack 3 (some .int), Cond.fieldLink RX0 108 "SheetRows" "packedCount" "I", Cond.methodLink RX0 111 yX0_packStretch, Cond.instanceMethod yX0_packStretch, Cond.selects RX0 yX0_packStretch yX0_packStretch, Cond.code yX0_packStretch cX0_packStretch 3 none, Cond.methodLink RL 67 yX1_pack, Cond.instanceMethod yX1_pack, Cond.selects RX1 yX1_pack yX1_pack, Cond.code yX1_pack cX1_pack 3 (some .int)]
def wsL_law_r11 : List Cond := [Cond.fieldLink RX1 92 "SheetRowsModel" "packed" "I", Cond.methodLink RL 68 yL_octet, Cond.static yL_octet, Cond.codeWith yL_octet cL_octet 4 (some .int) [(0, 9, 12, 13)], Cond.methodLink RL 15 yX0_octet, Cond.instanceMethod yX0_octet, Cond.selects RX0 yX0_octet yX0_octet, Cond.code yX0_octet cX0_octet 2 (some .byte), Cond.methodLink RL 71 yX1_octet, Cond.instanceMethod yX1_octet, Cond.selects RX1 yX1_octet yX1_octet, Cond.code yX1_octet cX1_octet 2 (some .byte), Cond.methodLink RL 72 yX0_add, Cond.instanceMethod yX0_add, Cond.selects RX0 yX0_add yX0_add, Cond.code yX0_add cX0_add 2 none, Cond.fieldLink RX0 117 "SheetRows" "collectedCount" "I", Cond.methodLink RL 76 yX1_add, Cond.instanceMethod yX1_add, Cond.selects RX1 yX1_add yX1_add, Cond.code yX1_add cX1_add 2 none, Cond.fieldLink RX1 95 "SheetRowsModel" "collected" "I", Cond.methodLink RL 77 yX0_unpack, Cond.instanceMethod yX0_unpack]
def wsL_law_r12 : List Cond := [Cond.selects RX0 yX0_unpack yX0_unpack, Cond.code yX0_unpack cX0_unpack 2 (some .int), Cond.methodLink RX0 120 yX0_readCollected, Cond.instanceMethod yX0_readCollected, Cond.selects RX0 yX0_readCollected yX0_readCollected, Cond.code yX0_readCollected cX0_readCollected 6 (some .int), Cond.methodLink RL 80 yX1_unpack, Cond.instanceMethod yX1_unpack, Cond.selects RX1 yX1_unpack yX1_unpack, Cond.code yX1_unpack cX1_unpack 6 (some .int), Cond.methodLink RL 81 yX0_side, Cond.instanceMethod yX0_side, Cond.selects RX0 yX0_side yX0_side, Cond.code yX0_side cX0_side 2 (some .int), Cond.methodLink RX0 123 yX0_mirrorRows, Cond.instanceMethod yX0_mirrorRows, Cond.selects RX0 yX0_mirrorRows yX0_mirrorRows, Cond.code yX0_mirrorRows cX0_mirrorRows 3 none, Cond.methodLink RX0 126 yX0_reverseRows, Cond.instanceMethod yX0_reverseRows, Cond.selects RX0 yX0_reverseRows yX0_reverseRows, Cond.code yX0_reverseRows cX0_reverseRows 3 none, Cond.methodLink RX0 129 yX0_invertGreys, Cond.instanceMethod yX0_invertGreys]
def wsL_law_r13 : List Cond := [Cond.selects RX0 yX0_invertGreys yX0_invertGreys, Cond.code yX0_invertGreys cX0_invertGreys 2 none, Cond.methodLink RX0 132 yX0_halve, Cond.instanceMethod yX0_halve, Cond.selects RX0 yX0_halve yX0_halve, Cond.code yX0_halve cX0_halve 3 none, Cond.methodLink RX0 161 yX0_meanOfFour, Cond.instanceMethod yX0_meanOfFour, Cond.selects RX0 yX0_meanOfFour yX0_meanOfFour, Cond.code yX0_meanOfFour cX0_meanOfFour 4 (some .byte), Cond.methodLink RL 84 yX1_side, Cond.instanceMethod yX1_side, Cond.selects RX1 yX1_side yX1_side, Cond.code yX1_side cX1_side 5 (some .int), Cond.methodLink RX1 98 yX1_mean, Cond.instanceMethod yX1_mean, Cond.selects RX1 yX1_mean yX1_mean, Cond.code yX1_mean cX1_mean 4 (some .int), Cond.methodLink RL 85 yX0_inverted, Cond.instanceMethod yX0_inverted, Cond.selects RX0 yX0_inverted yX0_inverted, Cond.code yX0_inverted cX0_inverted 1 (some .boolean), Cond.methodLink RL 89 yX1_inverted, Cond.instanceMethod yX1_inverted]
def wsL_law_r14 : List Cond := [Cond.selects RX1 yX1_inverted yX1_inverted, Cond.code yX1_inverted cX1_inverted 1 (some .boolean), Cond.methodLink RL 90 yL_grey, Cond.static yL_grey, Cond.codeWith yL_grey cL_grey 5 (some .int) [(0, 10, 13, 13)], Cond.methodLink RL 19 yX0_grey, Cond.instanceMethod yX0_grey, Cond.selects RX0 yX0_grey yX0_grey, Cond.code yX0_grey cX0_grey 3 (some .int), Cond.methodLink RL 93 yX1_grey, Cond.instanceMethod yX1_grey, Cond.selects RX1 yX1_grey yX1_grey, Cond.code yX1_grey cX1_grey 3 (some .int)]
def wsL_law : List Cond := (wsL_law_r1 ++ (wsL_law_r2 ++ (wsL_law_r3 ++ (wsL_law_r4 ++ (wsL_law_r5 ++ (wsL_law_r6 ++ (wsL_law_r7 ++ (wsL_law_r8 ++ (wsL_law_r9 ++ (wsL_law_r10 ++ (wsL_law_r11 ++ (wsL_law_r12 ++ (wsL_law_r13 ++ wsL_law_r14))))))))))))) ++ wsX00 ++ wsX10 ++ wsJx000600 ++ ([] : List Cond)
set_option maxRecDepth 20000 in
theorem wsL_law_r1_good : GoodIn lw_tbl wsL_law_r1 := goodIn_p wsL_law_r1 [240, 47, 50, 53, 56] (by decide +kernel) (by decide +kernel)
set_option maxRecDepth 20000 in
theorem wsL_law_r2_good : GoodIn lw_tbl wsL_law_r2 := goodIn_p wsL_law_r2 [59, 342] (by decide +kernel) (by decide +kernel)
set_option maxRecDepth 20000 in
theorem wsL_law_r3_good : GoodIn lw_tbl wsL_law_r3 := goodIn_p wsL_law_r3 [248, 252] (by decide +kernel) (by decide +kernel)
set_option maxRecDepth 20000 in
theorem wsL_law_r4_good : GoodIn lw_tbl wsL_law_r4 := goodIn_p wsL_law_r4 [397, 401, 405, 393, 115] (by decide +kernel) (by decide +kernel)
set_option maxRecDepth 20000 in
theorem wsL_law_r5_good : GoodIn lw_tbl wsL_law_r5 := goodIn_p wsL_law_r5 [119, 122, 126, 130, 413, 417, 421] (by decide +kernel) (by decide +kernel)
set_option maxRecDepth 20000 in
theorem wsL_law_r6_good : GoodIn lw_tbl wsL_law_r6 := goodIn_p wsL_law_r6 [134, 138, 143, 147, 151] (by decide +kernel) (by decide +kernel)
set_option maxRecDepth 20000 in
theorem wsL_law_r7_good : GoodIn lw_tbl wsL_law_r7 := goodIn_p wsL_law_r7 [155, 159, 433, 437, 429, 441] (by decide +kernel) (by decide +kernel)
set_option maxRecDepth 20000 in
theorem wsL_law_r8_good : GoodIn lw_tbl wsL_law_r8 := goodIn_p wsL_law_r8 [445, 449, 163, 453, 167, 171] (by decide +kernel) (by decide +kernel)
set_option maxRecDepth 20000 in
theorem wsL_law_r9_good : GoodIn lw_tbl wsL_law_r9 := goodIn_p wsL_law_r9 [175, 178, 181, 457, 461, 185] (by decide +kernel) (by decide +kernel)
set_option maxRecDepth 20000 in
theorem wsL_law_r10_good : GoodIn lw_tbl wsL_law_r10 := goodIn_p wsL_law_r10 [189, 465, 469, 193, 197, 473] (by decide +kernel) (by decide +kernel)
set_option maxRecDepth 20000 in
theorem wsL_law_r11_good : GoodIn lw_tbl wsL_law_r11 := goodIn_p wsL_law_r11 [329, 477, 201, 481] (by decide +kernel) (by decide +kernel)
set_option maxRecDepth 20000 in
theorem wsL_law_r12_good : GoodIn lw_tbl wsL_law_r12 := goodIn_p wsL_law_r12 [205, 209, 485, 213, 217, 221] (by decide +kernel) (by decide +kernel)
set_option maxRecDepth 20000 in
theorem wsL_law_r13_good : GoodIn lw_tbl wsL_law_r13 := goodIn_p wsL_law_r13 [225, 229, 233, 489, 493, 237] (by decide +kernel) (by decide +kernel)
set_option maxRecDepth 20000 in
theorem wsL_law_r14_good : GoodIn lw_tbl wsL_law_r14 := goodIn_p wsL_law_r14 [425, 337, 409] (by decide +kernel) (by decide +kernel)
set_option maxRecDepth 20000 in
theorem wsX00_good : GoodIn lw_tbl wsX00 := goodIn_p wsX00 [] (by decide +kernel) (by decide +kernel)
set_option maxRecDepth 20000 in
theorem wsX10_good : GoodIn lw_tbl wsX10 := goodIn_p wsX10 [] (by decide +kernel) (by decide +kernel)
set_option maxRecDepth 20000 in
theorem wsJx000600_good : GoodIn lw_tbl wsJx000600 := goodIn_p wsJx000600 [] (by decide +kernel) (by decide +kernel)
theorem wsL_law_good : GoodIn lw_tbl wsL_law := goodIn_app (goodIn_app (goodIn_app (goodIn_app (goodIn_app wsL_law_r1_good (goodIn_app wsL_law_r2_good (goodIn_app wsL_law_r3_good (goodIn_app wsL_law_r4_good (goodIn_app wsL_law_r5_good (goodIn_app wsL_law_r6_good (goodIn_app wsL_law_r7_good (goodIn_app wsL_law_r8_good (goodIn_app wsL_law_r9_good (goodIn_app wsL_law_r10_good (goodIn_app wsL_law_r11_good (goodIn_app wsL_law_r12_good (goodIn_app wsL_law_r13_good wsL_law_r14_good))))))))))))) wsX00_good) wsX10_good) wsJx000600_good) (fun _ h => absurd h List.not_mem_nil)
theorem wsL_law_in : ∀ w ∈ wsL_law, w ∈ lw_tbl := fun w h => (wsL_law_good w h).1
theorem inlX0 : ∀ w ∈ wsX00, w ∈ wsL_law := fun _ h => List.mem_append_left _ (List.mem_append_left _ (List.mem_append_left _ (List.mem_append_right _ h)))
theorem inX0 : ∀ w ∈ wsX00, w ∈ lw_tbl := fun w h => wsL_law_in w (inlX0 w h)
theorem inlX1 : ∀ w ∈ wsX10, w ∈ wsL_law := fun _ h => List.mem_append_left _ (List.mem_append_left _ (List.mem_append_right _ h))
theorem inX1 : ∀ w ∈ wsX10, w ∈ lw_tbl := fun w h => wsL_law_in w (inlX1 w h)
theorem inlJx00060 : ∀ w ∈ wsJx000600, w ∈ wsL_law := fun _ h => List.mem_append_left _ (List.mem_append_right _ h)
theorem inJx00060 : ∀ w ∈ wsJx000600, w ∈ lw_tbl := fun w h => wsL_law_in w (inlJx00060 w h)
theorem inJ9 : ∀ w ∈ wsJ90, w ∈ lw_tbl := by decide +kernel
theorem inJ0 : ∀ w ∈ wsJ00, w ∈ lw_tbl := by decide +kernel
theorem inJ7 : ∀ w ∈ wsJ70, w ∈ lw_tbl := by decide +kernel
abbrev vwCl : List vw_C := [(RJx00060, TJx00060, 6), (RX0, TX0, 16), (RX1, TX1, 15)]
/-- one decoded instruction: what, how long, where the next one is -/
def dec (cc : ByteArray) (pc : Nat) (i : Instr) (n pc' : Nat) : Prop := decode cc pc = .ok (i, n) ∧ pc + n = pc'
